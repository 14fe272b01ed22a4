/** Promises 18 to 22, 30 and 31: settle, unsettle, flip, commit, undo, image, restore. */
public final class ActsTest {
    private static final Check CHECK = new Check();

    public static void main(String[] args) {
        settles();
        unsettles();
        noNumbers();
        choicesWait();
        flips();
        flipsAllKinds();
        commits();
        commitsNumberAnew();
        commitsFewer();
        commitsRefused();
        undoes();
        thirtyActs();
        images();
        CHECK.end();
    }

    private static void settles() {
        TableMerge x = Check.told("column a number;row 1 1;row 2 2;left set 1 0 5;right set 1 0 6;left delete 2;right set 2 0 9;");
        CHECK.is("not a kind", x.settle(7, 1, 0, 0), -1);
        CHECK.is("not a kind below 0", x.settle(-1, 1, 0, 0), -1);
        CHECK.is("no such conflict", x.settle(5, 2, 0, 0), -1);
        CHECK.is("no such second number", x.settle(4, 2, 1, 0), -1);
        CHECK.is("numbers far off", x.settle(5, Integer.MAX_VALUE, Integer.MIN_VALUE, 0), -1);
        CHECK.is("choice 3 of three", x.settle(5, 1, 0, 3), -1);
        CHECK.is("choice 2 of two", x.settle(4, 2, 0, 2), -1);
        CHECK.is("choice -1", x.settle(4, 2, 0, -1), -1);
        CHECK.is("refused", x.count(13), 8);
        CHECK.is("no act", x.count(9), 0);
        CHECK.is("settled", x.settle(5, 1, 0, 1), 1);
        CHECK.is("settled already", x.settle(5, 1, 0, 1), -1);
        CHECK.is("settled", x.settle(4, 2, 0, 0), 0);
        CHECK.is("refused then", x.count(13), 9);
        CHECK.is("acts", x.count(9), 2);
        CHECK.is("choices", x.count(6), 2);
        CHECK.is("cell", x.cell(3, 1, 0), 5);
        TableMerge more = Check.told("column a number;column b number;row 1 1 1;needed 0;left set 1 0 _;right drop 0;");
        CHECK.is("conflicts", more.count(5), 2);
        CHECK.is("a choice may settle more, or bring others", more.settle(0, 0, 0, 1), 0);
    }

    private static void unsettles() {
        TableMerge x = Check.told("column a number;row 1 1;left set 1 0 5;right set 1 0 6;");
        CHECK.is("no choice", x.unsettle(5, 1, 0), -1);
        CHECK.is("refused", x.count(13), 1);
        x.settle(5, 1, 0, 2);
        CHECK.is("other numbers", x.unsettle(5, 0, 1), -1);
        CHECK.is("far off", x.unsettle(Integer.MIN_VALUE, Integer.MAX_VALUE, -1), -1);
        CHECK.is("taken back", x.unsettle(5, 1, 0), 2);
        CHECK.is("a conflict again", x.count(5), 1);
        CHECK.is("no choice", x.count(6), 0);
        CHECK.is("an act, too", x.count(9), 2);
        CHECK.is("undone", x.undo(), 1);
        CHECK.is("the choice is there", x.cell(3, 1, 0), 6);
        CHECK.is("choice 0 taken back", choiceZero(), 0);
    }

    /** Numbers that are none, though they would fall on another CONFLICT's place in a row of all. */
    private static void noNumbers() {
        TableMerge x = Check.told("column a number;column b number;row 0 1 1;row 1 1 1;needed 0;unique 0;left rename 0 x;right rename 0 y;"
                + "left set 0 0 2;right set 0 0 3;left set 1 0 4;right set 1 0 5;");
        x.settle(1, 0, 0, 1);
        x.settle(5, 0, 0, 1);
        x.settle(5, 1, 0, 0);
        x.set(0, 1, 0, 2);
        x.unsettle(5, 1, 0);
        x.settle(5, 1, 0, 1);
        CHECK.is("settled", x.settle(6, 1, 1, 0), 0);
        int refused = x.count(13);
        int[][] none = {{0, 9, 0}, {4, 20, 0}, {5, 0, 9}, {5, -1, 9}, {5, 2, -9}, {6, 0, 21}, {6, 2, -19}, {1, 0, 1}, {1, -9, 0}, {3, -18, 0}, {4, 20, 9}, {6, 4, 1}, {0, 9, 9}};
        for (int[] id : none) {
            CHECK.is("unsettle " + id[0] + " " + id[1] + " " + id[2], x.unsettle(id[0], id[1], id[2]), -1);
        }
        CHECK.is("refused", x.count(13), refused + none.length);
        CHECK.is("choices", x.count(6), 4);
    }

    private static int choiceZero() {
        TableMerge x = Check.told("column a number;row 1 1;left set 1 0 5;right set 1 0 6;");
        x.settle(5, 1, 0, 0);
        return x.unsettle(5, 1, 0);
    }

    private static void choicesWait() {
        TableMerge x = Check.told("column a number;row 1 1;left set 1 0 5;right set 1 0 6;");
        x.settle(5, 1, 0, 1);
        x.set(1, 1, 0, 5);
        CHECK.is("it waits", x.count(7), 1);
        CHECK.is("both's", x.whose(1, 0), 3);
        x.set(1, 1, 0, 8);
        CHECK.is("it comes up again", x.count(7), 0);
        CHECK.is("settled as ever", x.cell(3, 1, 0), 5);
        CHECK.is("no conflict", x.count(5), 0);
        x.delete(0, 1);
        CHECK.is("it waits", x.count(7), 1);
        CHECK.conflict(x, 0, 4, 1, 0);
        CHECK.is("a choice that waits can be taken back", x.unsettle(5, 1, 0), 1);
    }

    private static void flips() {
        TableMerge x = Check.told("column a number;row 1 1;left set 1 0 5;right set 1 0 6;left add x flag;left add y flag;left drop 5;right add z digit;right set 1 7 3;");
        x.settle(5, 1, 0, 2);
        x.flip();
        CHECK.is("LEFT's columns", x.table(0, 0), 1 + 32);
        CHECK.is("RIGHT's columns", x.table(1, 0), 1 + 256);
        CHECK.is("LEFT's cell", x.cell(0, 1, 0), 6);
        CHECK.is("LEFT's added cell", x.cell(0, 1, 5), 3);
        CHECK.is("its name", x.column(0, 5, 0), 25);
        CHECK.is("its type", x.column(0, 5, 1), 1);
        CHECK.is("RIGHT's type", x.column(1, 8, 1), 3);
        CHECK.is("the choice is LEFT's now", x.whose(1, 0), 1);
        CHECK.is("the cell as ever", x.cell(3, 1, 0), 6);
        CHECK.is("numbers that were had change about, too", x.add(1, 20, 0), -1);
        CHECK.is("LEFT has one left", x.add(0, 20, 0), 6);
        x.undo();
        CHECK.is("acts", x.undo(), 1);
        CHECK.is("undone", x.table(0, 0), 1 + 64);
        CHECK.is("undone, the choice", x.whose(1, 0), 2);
        x.flip();
        x.flip();
        CHECK.is("flipped twice", x.table(0, 0), 1 + 64);
        CHECK.is("flipped twice, the choice", x.whose(1, 0), 2);
    }

    private static void flipsAllKinds() {
        TableMerge x = Check.told("column a number;column b number;column c number;row 1 1 2 3;row 2 5 5 5;"
                + "left rename 0 k;right rename 0 l;left retype 1 digit;right retype 1 even;left drop 2;right set 1 2 7;"
                + "left add z flag;right add z digit;left delete 2;right set 2 0 6;");
        x.settle(0, 2, 0, 1);
        x.settle(1, 0, 0, 1);
        x.settle(2, 1, 0, 2);
        x.settle(3, 7, 0, 1);
        x.settle(4, 2, 0, 1);
        CHECK.is("all are settled", x.count(5), 0);
        x.flip();
        CHECK.is("choice of a column that is gone", x.unsettle(0, 2, 0), 1);
        CHECK.is("choice of a name", x.unsettle(1, 0, 0), 2);
        CHECK.is("choice of a type", x.unsettle(2, 1, 0), 1);
        CHECK.is("choice of a name twice, under the other number", x.unsettle(3, 5, 0), 1);
        CHECK.is("choice of a row that is gone", x.unsettle(4, 2, 0), 1);
        TableMerge base = Check.told("column a number;row 1 1;left set 1 0 5;right set 1 0 6;");
        base.settle(5, 1, 0, 0);
        base.flip();
        CHECK.is("the BASE's stays", base.unsettle(5, 1, 0), 0);
        TableMerge y = Check.told("row 1;left add z digit;right add z digit;left set 1 5 1;right set 1 7 2;");
        y.settle(5, 1, 5, 1);
        y.flip();
        CHECK.is("the cell is LEFT's 5 again, the choice of 7 waits", y.count(7), 1);
        CHECK.is("so it is a conflict", y.count(5), 1);
        CHECK.is("the choice", y.unsettle(5, 1, 7), 2);
    }

    private static void commits() {
        TableMerge x = Check.told("column a number;row 1 1;row 2 2;left set 1 0 5;right set 1 0 6;left delete 2;right insert 3;");
        CHECK.is("there is a conflict", x.commit(), -1);
        CHECK.is("refused", x.count(13), 1);
        x.settle(5, 1, 0, 2);
        x.image();
        CHECK.is("rows of the BASE", x.commit(), 2);
        CHECK.is("its rows", x.table(2, 1), 10);
        CHECK.is("LEFT's rows", x.table(0, 1), 10);
        CHECK.is("RIGHT's rows", x.table(1, 1), 10);
        CHECK.is("its cell", x.cell(2, 1, 0), 6);
        CHECK.is("LEFT's cell", x.cell(0, 1, 0), 6);
        CHECK.is("whose", x.whose(1, 0), 0);
        CHECK.is("choices are gone", x.count(6), 0);
        CHECK.is("an act", x.count(9), 2);
        CHECK.is("undone", x.undo(), 1);
        CHECK.is("the choice is back", x.count(6), 1);
        CHECK.is("the BASE's cell", x.cell(2, 1, 0), 1);
        CHECK.is("LEFT's cell", x.cell(0, 1, 0), 5);
    }

    private static void commitsNumberAnew() {
        TableMerge x = Check.told("column a number;column b digit;column c even;column d flag;row 1 1 2 4 1;"
                + "unique 1;below 0 2;needed 3;below 2 3;left drop 0;right drop 1;left add x flag;left drop 5;left add y digit;left set 1 6 7;right add z even;right set 1 7 8;");
        CHECK.conflict(x, 0, 6, 3, 1);
        x.settle(6, 3, 1, 0);
        CHECK.is("made EMPTY", x.cell(3, 1, 3), 9999);
        CHECK.is("committed", x.commit(), 1);
        CHECK.is("columns", x.table(2, 0), 15);
        int[] names = {2, 3, 24, 25};
        int[] types = {2, 3, 1, 2};
        int[] cells = {4, 9999, 7, 8};
        for (int c = 0; c < 4; c++) {
            CHECK.is("name of " + c, x.column(2, c, 0), names[c]);
            CHECK.is("type of " + c, x.column(2, c, 1), types[c]);
            CHECK.is("cell of " + c, x.cell(2, 1, c), cells[c]);
            CHECK.is("RIGHT's cell of " + c, x.cell(1, 1, c), cells[c]);
        }
        CHECK.is("demands whose columns are there", x.count(2), 2);
        CHECK.is("needed, under its new number", x.count(5), 1);
        CHECK.conflict(x, 0, 6, 0, 1);
        x.set(0, 1, 1, 0);
        CHECK.conflict(x, 0, 6, 1, 1);
        CHECK.is("conflicts", x.count(5), 1);
        CHECK.is("LEFT's numbers were never had", x.add(0, 0, 0), 5);
        CHECK.is("RIGHT's too", x.add(1, 0, 0), 7);
    }

    private static void commitsFewer() {
        TableMerge x = Check.told("column a number;column b number;column c number;row 1 1 2 3;row 2 4 5 6;below 1 2;unique 0;left drop 0;right delete 2;");
        CHECK.is("committed", x.commit(), 1);
        CHECK.is("columns", x.table(2, 0), 3);
        CHECK.is("LEFT's columns", x.table(0, 0), 3);
        CHECK.is("demands", x.count(2), 1);
        CHECK.is("cells", x.count(8), 2);
        x.set(0, 1, 0, 3);
        CHECK.conflict(x, 0, 6, 0, 1);
        CHECK.is("below, of the first and the second", x.settle(6, 0, 1, 0), 0);
        CHECK.is("the second one is EMPTY", x.cell(3, 1, 1), 9999);
        TableMerge y = Check.told("column a number;column b number;column c number;column d number;row 1 9 1 2 3;below 1 3;needed 2;left drop 0;");
        y.commit();
        CHECK.is("no conflict", y.count(5), 0);
        y.set(1, 1, 2, 1);
        CHECK.is("below 0 2", y.count(5), 1);
        y.set(1, 1, 1, TableMerge.EMPTY);
        CHECK.is("needed 1", y.count(5), 2);
    }

    private static void commitsRefused() {
        TableMerge x = Check.told("column a number;column b number;column c number;column d number;left add e flag;right add f flag;");
        CHECK.is("six columns", x.commit(), -1);
        x.drop(1, 7);
        CHECK.is("five columns", x.commit(), 0);
        StringBuilder text = new StringBuilder();
        for (int k = 0; k < 12; k++) {
            text.append("row ").append(k).append(';');
        }
        TableMerge y = Check.told(text + "left delete 0;right delete 1;left insert 12;right insert 12;left delete 11;left insert 13;");
        CHECK.is("rows merged", y.count(4), 11);
        CHECK.is("committed", y.commit(), 11);
        y.delete(0, 2);
        y.insert(0, 14);
        y.insert(0, 15);
        y.insert(1, 16);
        CHECK.is("rows merged", y.count(4), 13);
        int refused = y.count(13);
        CHECK.is("thirteen rows", y.commit(), -1);
        CHECK.is("refused", y.count(13), refused + 1);
        y.delete(1, 16);
        CHECK.is("twelve rows", y.commit(), 12);
    }

    private static void undoes() {
        TableMerge x = Check.told("column a number;row 1 1;");
        CHECK.is("nothing to undo", x.undo(), -1);
        CHECK.is("that is no act that was refused", x.count(13), 0);
        x.set(0, 1, 0, 5);
        x.insert(0, 2);
        x.delete(0, 1);
        x.rename(0, 0, 9);
        x.retype(0, 0, 3);
        x.add(0, 8, 2);
        x.drop(0, 0);
        x.set(0, 1, 0, 5);
        CHECK.is("acts", x.count(9), 7);
        CHECK.is("undone: drop", x.undo(), 6);
        CHECK.is("columns", x.table(0, 0), 33);
        x.undo();
        CHECK.is("undone: add", x.table(0, 0), 1);
        x.undo();
        CHECK.is("undone: retype", x.column(0, 0, 1), 0);
        x.undo();
        CHECK.is("undone: rename", x.column(0, 0, 0), 0);
        x.undo();
        CHECK.is("undone: delete, with its cell", x.cell(0, 1, 0), 5);
        x.undo();
        CHECK.is("undone: insert", x.table(0, 1), 2);
        CHECK.is("undone: set", x.undo(), 0);
        CHECK.is("cell", x.cell(0, 1, 0), 1);
        CHECK.is("the refused stay", x.count(13), 1);
        x.see(1, 0, 1);
        x.flip();
        x.undo();
        CHECK.is("what is seen is not undone", x.count(10), 1);
    }

    private static void thirtyActs() {
        TableMerge x = Check.told("column a number;row 1 0;");
        for (int i = 1; i <= 40; i++) {
            x.set(0, 1, 0, i);
            CHECK.is("acts kept", x.count(9), Math.min(30, i));
        }
        for (int left = 29; left >= 0; left--) {
            CHECK.is("undone", x.undo(), left);
            CHECK.is("the number then", x.cell(0, 1, 0), left + 10);
        }
        CHECK.is("the first ten are not kept", x.undo(), -1);
        CHECK.is("number", x.cell(0, 1, 0), 10);
    }

    private static void images() {
        TableMerge x = Check.told("column a number;row 1 0;needed 0;left set 1 0 3;right set 1 0 4;");
        CHECK.no("no image", x.restore());
        x.settle(5, 1, 0, 1);
        x.set(0, 1, 0, 2);
        x.see(1, 0, 2);
        x.image();
        x.unsettle(5, 1, 0);
        x.settle(5, 1, 0, 2);
        x.commit();
        x.forget();
        x.set(0, 1, 0, 900);
        x.set(0, 1, 0, 900);
        Check.feed(x, "abc");
        CHECK.yes("restored", x.restore());
        CHECK.is("BASE", x.cell(2, 1, 0), 0);
        CHECK.is("LEFT", x.cell(0, 1, 0), 2);
        CHECK.is("RIGHT", x.cell(1, 1, 0), 4);
        CHECK.is("merged by the choice", x.cell(3, 1, 0), 2);
        CHECK.is("demands", x.count(2), 1);
        CHECK.is("acts", x.count(9), 2);
        CHECK.is("seen", x.count(10), 1);
        CHECK.is("so", x.edited(2), 1);
        CHECK.is("the tape stays", x.count(11), 20);
        CHECK.is("the refused stay", x.count(13), 1);
        CHECK.is("an act of the image is undone", x.undo(), 1);
        CHECK.is("LEFT then", x.cell(0, 1, 0), 3);
        CHECK.yes("restored once more", x.restore());
        CHECK.is("LEFT then", x.cell(0, 1, 0), 2);
        x.delete(0, 1);
        x.image();
        x.undo();
        CHECK.yes("another image", x.restore());
        CHECK.is("in place of the first", x.table(0, 1), 0);
        for (int i = 0; i < 35; i++) {
            x.flip();
        }
        x.image();
        for (int i = 0; i < 12; i++) {
            x.undo();
        }
        x.restore();
        CHECK.is("all acts", x.count(9), 30);
        for (int i = 29; i >= 0; i--) {
            CHECK.is("undone", x.undo(), i);
        }
    }
}
