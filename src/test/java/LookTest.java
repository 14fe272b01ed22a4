/** Promises 5 to 10: count, table, column, cell, whose, conflict, and what is MERGED by the rules (a) to (e). */
public final class LookTest {
    private static final Check CHECK = new Check();

    public static void main(String[] args) {
        counts();
        looksRefused();
        columnsGone();
        names();
        types();
        addedColumns();
        namesTwice();
        rows();
        cells();
        casts();
        demands();
        demandsInOrder();
        firstAndLastNumbers();
        CHECK.end();
    }

    private static void counts() {
        TableMerge x = Check.told("column a number;column b digit;row 1 10 3;row 2 20 _;needed 1;left set 1 0 11;right set 1 0 12;right insert 9;");
        int[] due = {2, 2, 1, 2, 3, 3, 0, 0, 3, 0, 0, 0, 0, 0, 0};
        for (int what = 0; what < due.length; what++) {
            CHECK.is("count " + what, x.count(what), due[what]);
        }
        x.settle(5, 1, 0, 2);
        x.set(0, 1, 0, 12);
        x.set(0, 1, 0, 12);
        x.see(0, 0, 0);
        x.see(-1, 0, 0);
        Check.feed(x, "x");
        int[] then = {2, 2, 1, 2, 3, 2, 1, 1, 3, 2, 1, 20, 0, 1, 1};
        for (int what = 0; what < then.length; what++) {
            CHECK.is("count then " + what, x.count(what), then[what]);
        }
        TableMerge y = Check.told("column a number;row 1 1;left insert 2;left insert 3;left add x flag;");
        CHECK.is("columns of the BASE", y.count(0), 1);
        CHECK.is("rows of the BASE", y.count(1), 1);
        CHECK.noSuch("count(-1)", () -> x.count(-1));
        CHECK.noSuch("count(15)", () -> x.count(15));
    }

    private static void looksRefused() {
        TableMerge x = Check.told("column a number;row 1 10;left add b flag;right delete 1;right insert 2;");
        CHECK.is("columns of LEFT", x.table(0, 0), 33);
        CHECK.is("columns of RIGHT", x.table(1, 0), 1);
        CHECK.is("rows of RIGHT", x.table(1, 1), 4);
        CHECK.is("rows of the BASE", x.table(2, 1), 2);
        CHECK.is("columns merged", x.table(3, 0), 33);
        CHECK.is("rows merged", x.table(3, 1), 4);
        CHECK.noSuch("table(-1, 0)", () -> x.table(-1, 0));
        CHECK.noSuch("table(4, 0)", () -> x.table(4, 0));
        CHECK.noSuch("table(0, 2)", () -> x.table(0, 2));
        CHECK.noSuch("table(0, -1)", () -> x.table(0, -1));
        CHECK.is("name", x.column(0, 5, 0), 1);
        CHECK.is("type", x.column(0, 5, 1), 3);
        CHECK.noSuch("column of RIGHT that it hasn't", () -> x.column(1, 5, 0));
        CHECK.noSuch("column of the BASE that it hasn't", () -> x.column(2, 1, 0));
        CHECK.noSuch("column -1", () -> x.column(2, -1, 0));
        CHECK.noSuch("column 9", () -> x.column(3, 9, 0));
        CHECK.noSuch("column, what 2", () -> x.column(2, 0, 2));
        CHECK.noSuch("column, what -1", () -> x.column(2, 0, -1));
        CHECK.noSuch("column of no table", () -> x.column(4, 0, 0));
        CHECK.is("cell", x.cell(2, 1, 0), 10);
        CHECK.is("empty cell", x.cell(0, 1, 5), TableMerge.EMPTY);
        CHECK.noSuch("cell of a row that isn't there", () -> x.cell(1, 1, 0));
        CHECK.noSuch("cell of a row that isn't merged", () -> x.cell(3, 1, 0));
        CHECK.noSuch("cell of a column that isn't there", () -> x.cell(1, 2, 5));
        CHECK.noSuch("cell of key 20", () -> x.cell(2, 20, 0));
        CHECK.noSuch("cell of key -1", () -> x.cell(2, -1, 0));
        CHECK.noSuch("cell of column 9", () -> x.cell(2, 1, 9));
        CHECK.noSuch("cell of key 33, whose bit wraps", () -> x.cell(2, 33, 0));
        CHECK.noSuch("cell of no table", () -> x.cell(-1, 1, 0));
        CHECK.noSuch("whose of a row that isn't merged", () -> x.whose(1, 0));
        CHECK.noSuch("whose of a column that isn't merged", () -> x.whose(2, 1));
        CHECK.noSuch("whose(-1, 0)", () -> x.whose(-1, 0));
        CHECK.noSuch("whose(2, 9)", () -> x.whose(2, 9));
        CHECK.noSuch("conflict(0, 0) of none", () -> x.conflict(0, 0));
        TableMerge y = Check.told("column a number;row 1 10;needed 0;left set 1 0 _;");
        CHECK.is("conflict's choices", y.conflict(0, 5), 2);
        CHECK.noSuch("conflict(0, 6)", () -> y.conflict(0, 6));
        CHECK.noSuch("conflict(0, -1)", () -> y.conflict(0, -1));
        CHECK.noSuch("conflict(1, 0)", () -> y.conflict(1, 0));
        CHECK.noSuch("conflict(-1, 0)", () -> y.conflict(-1, 0));
    }

    private static void columnsGone() {
        TableMerge x = Check.told("column a number;column b number;column c number;column d number;column e digit;row 1 1 2 3 4 5;"
                + "left drop 0;right drop 0;left drop 1;right drop 2;left rename 2 z;left drop 3;right insert 7;right set 7 3 8;"
                + "right drop 4;left retype 4 number;");
        CHECK.is("columns merged", x.table(3, 0), 4 + 8 + 16);
        CHECK.conflict(x, 0, 0, 2, 0);
        CHECK.conflict(x, 1, 0, 3, 0);
        CHECK.conflict(x, 2, 0, 4, 0);
        CHECK.is("conflicts", x.count(5), 3);
        CHECK.is("by LEFT", x.conflict(0, 3), -1);
        CHECK.is("by RIGHT", x.conflict(0, 4), -1);
        CHECK.is("choices", x.conflict(0, 5), 2);
        CHECK.is("kept: its name", x.column(3, 2, 0), 25);
        CHECK.is("kept: its type", x.column(3, 4, 1), 0);
        CHECK.is("kept: its cell by the one that has it", x.cell(3, 7, 3), 8);
        CHECK.is("kept: whose", x.whose(7, 3), 2);
        CHECK.is("kept: the BASE's cell", x.cell(3, 1, 3), 4);
        CHECK.is("settled, gone", x.settle(0, 3, 0, 1), 2);
        CHECK.is("columns then", x.table(3, 0), 4 + 16);
        CHECK.is("settled, kept", x.settle(0, 2, 0, 0), 1);
        CHECK.is("columns then", x.table(3, 0), 4 + 16);
        TableMerge cast = Check.told("column a number;row 1 15;left drop 0;right retype 0 digit;");
        CHECK.conflict(cast, 0, 0, 0, 0);
        TableMerge gone = Check.told("column a number;row 1 15;left drop 0;right set 1 0 16;right delete 1;");
        CHECK.is("a changed cell that is gone with its row", gone.count(5), 0);
        CHECK.is("the column is gone", gone.count(3), 0);
    }

    private static void names() {
        TableMerge x = Check.told("column a number;column b number;column c number;column d number;"
                + "left rename 0 k;right rename 1 l;left rename 2 m;right rename 2 m;left rename 3 n;right rename 3 o;");
        CHECK.is("LEFT's name", x.column(3, 0, 0), 'k' - 'a');
        CHECK.is("RIGHT's name", x.column(3, 1, 0), 'l' - 'a');
        CHECK.is("both's name", x.column(3, 2, 0), 'm' - 'a');
        CHECK.is("the BASE's name", x.column(3, 3, 0), 'd' - 'a');
        CHECK.is("conflicts", x.count(5), 1);
        CHECK.conflict(x, 0, 1, 3, 0);
        CHECK.is("by LEFT", x.conflict(0, 3), 'n' - 'a');
        CHECK.is("by RIGHT", x.conflict(0, 4), 'o' - 'a');
        CHECK.is("choices", x.conflict(0, 5), 3);
        x.settle(1, 3, 0, 2);
        CHECK.is("RIGHT's by the choice", x.column(3, 3, 0), 'o' - 'a');
        x.undo();
        x.settle(1, 3, 0, 0);
        CHECK.is("the BASE's by the choice", x.column(3, 3, 0), 'd' - 'a');
    }

    private static int typeOf(String base, String left, String right) {
        StringBuilder text = new StringBuilder("column a " + base + ";");
        if (!left.equals(base)) {
            text.append("left retype 0 ").append(left).append(';');
        }
        if (!right.equals(base)) {
            text.append("right retype 0 ").append(right).append(';');
        }
        TableMerge x = Check.told(text.toString());
        if (x.count(5) == 0) {
            return x.column(3, 0, 1);
        }
        CHECK.conflict(x, 0, 2, 0, 0);
        CHECK.is("types' choices", x.conflict(0, 5), 3);
        CHECK.is("conflict: by LEFT", x.conflict(0, 3), x.column(0, 0, 1));
        CHECK.is("conflict: by RIGHT", x.conflict(0, 4), x.column(1, 0, 1));
        CHECK.is("conflict: the BASE's type", x.column(3, 0, 1), x.column(2, 0, 1));
        x.settle(2, 0, 0, 1);
        CHECK.is("settled: LEFT's type", x.column(3, 0, 1), x.column(0, 0, 1));
        return -1;
    }

    private static void types() {
        String[] names = {"number", "digit", "even", "flag"};
        for (int b = 0; b < 4; b++) {
            for (int t = 0; t < 4; t++) {
                CHECK.is("LEFT's type " + b + t, typeOf(names[b], names[t], names[b]), t);
                CHECK.is("RIGHT's type " + b + t, typeOf(names[b], names[b], names[t]), t);
                CHECK.is("both's type " + b + t, typeOf(names[b], names[t], names[t]), t);
            }
        }
        CHECK.is("digit, flag", typeOf("number", "digit", "flag"), 3);
        CHECK.is("flag, digit", typeOf("even", "flag", "digit"), 3);
        CHECK.is("number, digit", typeOf("even", "number", "digit"), 1);
        CHECK.is("even, number", typeOf("digit", "even", "number"), 2);
        CHECK.is("flag, number", typeOf("digit", "flag", "number"), 3);
        CHECK.is("digit, even", typeOf("number", "digit", "even"), -1);
        CHECK.is("even, flag", typeOf("number", "even", "flag"), -1);
        CHECK.is("flag, even", typeOf("digit", "flag", "even"), -1);
    }

    private static void addedColumns() {
        TableMerge x = Check.told("row 1;left add a digit;left add b digit;right add b digit;right add a digit;"
                + "left set 1 5 3;right set 1 8 3;left set 1 6 4;right set 1 7 5;");
        CHECK.is("one with LEFT's", x.table(3, 0), 96);
        CHECK.is("both's", x.whose(1, 5), 3);
        CHECK.is("conflicts", x.count(5), 1);
        CHECK.conflict(x, 0, 5, 1, 6);
        CHECK.is("by LEFT", x.conflict(0, 3), 4);
        CHECK.is("by RIGHT", x.conflict(0, 4), 5);
        CHECK.is("the BASE's is EMPTY", x.cell(3, 1, 6), 9999);
        TableMerge y = Check.told("left add a digit;right add a even;");
        CHECK.is("types unlike: both there", y.table(3, 0), 160);
        CHECK.is("conflicts", y.count(5), 1);
        CHECK.conflict(y, 0, 3, 7, 0);
        CHECK.is("the name all the same", y.column(3, 7, 0), 0);
        TableMerge z = Check.told("left add a digit;left drop 5;left add a digit;right add a digit;");
        CHECK.is("one with the second", z.table(3, 0), 64);
    }

    private static void namesTwice() {
        TableMerge x = Check.told("column a number;column b number;left rename 0 x;right rename 1 x;left add a flag;"
                + "right add c digit;right add y flag;");
        CHECK.is("names clash", x.count(5), 1);
        CHECK.conflict(x, 0, 3, 1, 0);
        CHECK.is("has it all the same", x.column(3, 1, 0), 23);
        CHECK.is("choices", x.conflict(0, 5), 2);
        x.settle(3, 1, 0, 0);
        CHECK.is("the least name that none has", x.column(3, 1, 0), 1);
        CHECK.is("no conflict", x.count(5), 0);
        x.undo();
        x.settle(3, 1, 0, 1);
        CHECK.is("gone", x.table(3, 0), 1 + 32 + 128 + 256);
        TableMerge y = Check.told("column a number;column b number;left rename 0 x;right rename 1 x;left add a flag;right add b flag;");
        CHECK.is("a clash", y.count(5), 1);
        y.settle(3, 1, 0, 0);
        CHECK.is("names of columns behind it count, too", y.column(3, 1, 0), 2);
        CHECK.is("so no new clash", y.count(5), 0);
    }

    private static void rows() {
        TableMerge x = Check.told("column a number;row 1 1;row 2 2;row 3 3;row 4 4;row 5 5;left delete 1;right delete 1;left delete 2;right delete 3;left set 3 0 9;"
                + "left delete 4;right add z flag;right set 4 7 0;left insert 10;right insert 11;left insert 12;right insert 12;left delete 5;left insert 5;");
        CHECK.is("rows merged", x.table(3, 1), 8 + 16 + 32 + (7 << 10));
        CHECK.is("conflicts", x.count(5), 2);
        CHECK.conflict(x, 0, 4, 3, 0);
        CHECK.conflict(x, 1, 4, 4, 0);
        CHECK.is("by LEFT", x.conflict(0, 3), -1);
        CHECK.is("choices", x.conflict(1, 5), 2);
        CHECK.is("kept: LEFT's cell", x.cell(3, 3, 0), 9);
        CHECK.is("kept: the BASE's cell", x.cell(3, 4, 0), 4);
        CHECK.is("deleted and inserted: EMPTY", x.cell(3, 5, 0), 9999);
        CHECK.is("deleted and inserted: LEFT's", x.whose(5, 0), 1);
        x.settle(4, 4, 0, 1);
        CHECK.is("gone", x.table(3, 1), 8 + 32 + (7 << 10));
        x.settle(4, 3, 0, 0);
        CHECK.is("kept by the choice", x.table(3, 1), 8 + 32 + (7 << 10));
        TableMerge y = Check.told("column a number;row 1 1;left delete 1;right set 1 0 5;");
        CHECK.conflict(y, 0, 4, 1, 0);
        TableMerge z = Check.told("column a number;row 1 1;left delete 1;right add b flag;right set 1 7 1;right drop 7;");
        CHECK.is("no cell is changed any more", z.count(5), 0);
        CHECK.is("gone", z.count(4), 0);
    }

    private static void cells() {
        TableMerge x = Check.told("column a number;row 1 1;row 2 2;row 3 3;row 4 4;row 5 5;"
                + "left set 2 0 20;right set 3 0 30;left set 4 0 40;right set 4 0 40;left set 5 0 50;right set 5 0 _;");
        int[] numbers = {1, 20, 30, 40, 5};
        int[] owners = {0, 1, 2, 3, 0};
        for (int i = 0; i < 5; i++) {
            CHECK.is("cell of " + (i + 1), x.cell(3, i + 1, 0), numbers[i]);
            CHECK.is("whose is " + (i + 1), x.whose(i + 1, 0), owners[i]);
        }
        CHECK.conflict(x, 0, 5, 5, 0);
        CHECK.is("by LEFT", x.conflict(0, 3), 50);
        CHECK.is("by RIGHT", x.conflict(0, 4), 9999);
        CHECK.is("choices", x.conflict(0, 5), 3);
        int[] chosen = {5, 50, 9999};
        for (int choice = 0; choice < 3; choice++) {
            x.settle(5, 5, 0, choice);
            CHECK.is("chosen " + choice, x.cell(3, 5, 0), chosen[choice]);
            CHECK.is("whose by choice " + choice, x.whose(5, 0), choice);
            x.undo();
        }
        TableMerge order = Check.told("column a number;column b number;row 2 1 1;row 1 1 1;left set 1 1 2;left set 2 0 2;left set 1 0 2;right set 1 1 3;right set 2 0 3;right set 1 0 3;");
        CHECK.conflict(order, 0, 5, 1, 0);
        CHECK.conflict(order, 1, 5, 1, 1);
        CHECK.conflict(order, 2, 5, 2, 0);
    }

    private static void casts() {
        TableMerge x = Check.told("column a number;row 1 -17;row 2 17;row 3 0;row 4 _;right retype 0 digit;left set 1 0 -28;left set 2 0 5;right set 2 0 5;left set 3 0 12;right set 3 0 2;");
        CHECK.is("RIGHT's cell", x.cell(1, 1, 0), 7);
        CHECK.is("LEFT's, cast", x.cell(3, 1, 0), 8);
        CHECK.is("a digit of LEFT's 12 is like RIGHT's 2", x.cell(3, 3, 0), 2);
        CHECK.is("both's", x.whose(3, 0), 3);
        CHECK.is("EMPTY stays", x.cell(3, 4, 0), 9999);
        TableMerge even = Check.told("column a number;row 1 -17;row 2 17;row 3 1;row 4 -1;row 5 4;left retype 0 even;");
        int[] due = {-16, 16, 0, 0, 4};
        for (int i = 0; i < 5; i++) {
            CHECK.is("even " + i, even.cell(0, i + 1, 0), due[i]);
            CHECK.is("even merged " + i, even.cell(3, i + 1, 0), due[i]);
            CHECK.is("not changed " + i, even.whose(i + 1, 0), 0);
        }
        TableMerge flag = Check.told("column a number;row 1 -17;row 2 0;row 3 _;left retype 0 flag;right set 1 0 0;");
        CHECK.is("flag of the BASE's", flag.cell(0, 1, 0), 1);
        CHECK.is("flag of RIGHT's", flag.cell(3, 1, 0), 0);
        CHECK.is("flag of 0", flag.cell(3, 2, 0), 0);
        CHECK.is("flag of EMPTY", flag.cell(3, 3, 0), 9999);
        TableMerge back = Check.told("column a number;row 1 17;left retype 0 digit;left retype 0 number;");
        CHECK.is("cast forth and back is changed", back.whose(1, 0), 1);
        CHECK.is("and is LEFT's", back.cell(3, 1, 0), 7);
        TableMerge by = Check.told("column a number;row 1 5;left retype 0 even;left set 1 0 8;right set 1 0 7;");
        CHECK.is("RIGHT's by the merged type", by.conflict(0, 4), 6);
    }

    private static void demands() {
        TableMerge x = Check.told("column a number;column b number;row 1 5 6;row 2 5 5;row 3 _ 9;row 4 7 _;row 5 5 1;unique 0;needed 1;below 0 1;");
        CHECK.is("conflicts", x.count(5), 5);
        CHECK.conflict(x, 0, 6, 0, 2);
        CHECK.conflict(x, 1, 6, 0, 5);
        CHECK.conflict(x, 2, 6, 1, 4);
        CHECK.conflict(x, 3, 6, 2, 2);
        CHECK.conflict(x, 4, 6, 2, 5);
        CHECK.is("choices", x.conflict(0, 5), 2);
        CHECK.is("by LEFT", x.conflict(0, 3), -1);
        CHECK.is("UNIQUE: EMPTY then, so not below any more", x.settle(6, 0, 2, 0), 3);
        CHECK.is("its cell", x.cell(3, 2, 0), 9999);
        CHECK.is("whose", x.whose(2, 0), 4);
        CHECK.is("NEEDED: 0 then, and 7 isn't below it", x.settle(6, 1, 4, 0), 3);
        CHECK.conflict(x, 1, 6, 2, 4);
        CHECK.is("its cell", x.cell(3, 4, 1), 0);
        CHECK.is("whose", x.whose(4, 1), 4);
        CHECK.is("BELOW: the second is EMPTY", x.settle(6, 2, 4, 0), 2);
        CHECK.is("its cell", x.cell(3, 4, 1), 9999);
        CHECK.is("the first one's", x.cell(3, 4, 0), 7);
        CHECK.is("the row is gone, with the conflict behind it", x.settle(6, 0, 5, 1), 0);
        CHECK.is("rows", x.table(3, 1), 2 + 4 + 8 + 16);
        TableMerge gone = Check.told("column a number;column b number;row 1 5 5;unique 0;below 1 0;needed 1;left drop 0;left set 1 1 _;");
        CHECK.is("only the demand of the column that is there", gone.count(5), 1);
        CHECK.conflict(gone, 0, 6, 2, 1);
    }

    private static void firstAndLastNumbers() {
        TableMerge x = Check.told("column a number;row 0 1;row 19 1;unique 0;needed 0;needed 0;needed 0;left set 0 0 2;right set 0 0 3;left delete 19;right set 19 0 _;");
        CHECK.conflict(x, 0, 4, 19, 0);
        CHECK.conflict(x, 1, 5, 0, 0);
        CHECK.conflict(x, 2, 6, 1, 19);
        CHECK.conflict(x, 4, 6, 3, 19);
        TableMerge y = Check.told("column a number;row 0 _;needed 0;");
        CHECK.conflict(y, 0, 6, 0, 0);
        TableMerge z = Check.told("column a number;row 0 1;left delete 0;right set 0 0 2;");
        CHECK.conflict(z, 0, 4, 0, 0);
        TableMerge w = Check.told("row 19;left add x flag;right add y flag;right add z digit;left add z digit;right set 19 8 1;left set 19 6 2;right rename 7 x;right retype 7 digit;");
        CHECK.conflict(w, 0, 3, 7, 0);
        CHECK.conflict(w, 1, 5, 19, 6);
        TableMerge v = Check.told("left add x flag;right add y flag;right add x digit;");
        CHECK.conflict(v, 0, 3, 8, 0);
    }

    private static void demandsInOrder() {
        TableMerge x = Check.told("column a number;row 1 5;row 2 5;row 3 5;unique 0;");
        x.settle(6, 0, 2, 1);
        CHECK.is("the third one is like the first still", x.count(5), 1);
        TableMerge y = Check.told("column a number;column b number;row 1 5 1;row 2 5 2;needed 0;unique 0;below 0 1;");
        CHECK.is("conflicts", y.count(5), 3);
        CHECK.is("a row that a later choice takes away was a conflict ahead of it", y.settle(6, 2, 2, 1), 2);
        CHECK.conflict(y, 0, 6, 1, 2);
        CHECK.is("rows", y.count(4), 1);
        TableMerge w = Check.told("column a number;column b number;row 1 5 1;row 2 5 2;unique 0;needed 0;");
        CHECK.is("made EMPTY by one, broken for the next", w.settle(6, 0, 2, 0), 1);
        CHECK.conflict(w, 0, 6, 1, 2);
        CHECK.is("made 0 by that", w.settle(6, 1, 2, 0), 0);
        CHECK.is("its cell", w.cell(3, 2, 0), 0);
        CHECK.is("no choice waits", w.count(7), 0);
        w.unsettle(6, 0, 2);
        CHECK.is("now the other one waits", w.count(7), 1);
    }
}
