/** The bounds of promises 18 to 22, 30 and 31: one method for each sentence, at both sides of its bound. */
public final class ActBoundsTest {
    private static final Check CHECK = new Check();
    private static final int EMPTY = TableMerge.EMPTY;
    private static final String CELLS_MEET = "column a number;row 1 1;left set 1 0 5;right set 1 0 6;";

    public static void main(String[] args) {
        settledOnce();
        settledWhileItWaits();
        conflictsThatAreLeft();
        takenBack();
        takenBackWhileItWaits();
        sidesChangeAbout();
        addedNumbersChangeAbout();
        choicesChangeAbout();
        choicesOfAddedColumns();
        committedWithoutConflicts();
        fiveColumns();
        twelveRows();
        columnsNumberedAnew();
        demandsThatAreThereStill();
        bothSidesAsIt();
        committedAsChoicesMadeIt();
        choicesAreGone();
        thirtyActs();
        refusedBehindThirty();
        everyKindOfActIsUndone();
        undoIsNoAct();
        imageInPlaceOfAnother();
        imageOfAllThatItKeeps();
        imageOfThirtyActs();
        whatNoImageKeeps();
        tablesTakeAll();
        CHECK.end();
    }

    /** "NONE (STATUS 1): it is no CONFLICT now (SETTLED, too)". */
    private static void settledOnce() {
        TableMerge x = Check.told(CELLS_MEET);
        CHECK.is("settled", x.settle(5, 1, 0, 1), 0);
        for (int choice = 0; choice < 3; choice++) {
            CHECK.is("settled already", x.settle(5, 1, 0, choice), -1);
        }
        CHECK.is("refused", x.count(13), 3);
        CHECK.is("the choice stays", x.cell(3, 1, 0), 5);
        CHECK.is("acts", x.count(9), 1);
        CHECK.is("taken back", x.unsettle(5, 1, 0), 1);
        CHECK.is("and settled anew", x.settle(5, 1, 0, 2), 0);
        CHECK.is("by the other one", x.cell(3, 1, 0), 6);
    }

    /** "if it doesn't come up, the CHOICE waits": then it is no CONFLICT either. */
    private static void settledWhileItWaits() {
        TableMerge x = Check.told(CELLS_MEET);
        x.settle(5, 1, 0, 1);
        CHECK.is("it doesn't wait", x.count(7), 0);
        x.set(0, 1, 0, 6);
        CHECK.is("it waits", x.count(7), 1);
        CHECK.is("choices", x.count(6), 1);
        CHECK.is("no conflict now", x.settle(5, 1, 0, 2), -1);
        CHECK.is("whose", x.whose(1, 0), 3);
        x.set(0, 1, 0, 7);
        CHECK.is("it comes up again", x.count(7), 0);
        CHECK.is("settled by the choice that waited", x.cell(3, 1, 0), 7);
        CHECK.is("conflicts", x.count(5), 0);
    }

    /** "SETTLED: CONFLICTS that are left." */
    private static void conflictsThatAreLeft() {
        TableMerge x = Check.told("column a number;row 1 1;row 2 2;row 3 3;unique 0;"
                + "left set 1 0 5;right set 1 0 6;left set 2 0 5;right set 2 0 6;left set 3 0 5;right set 3 0 6;");
        CHECK.is("three", x.count(5), 3);
        CHECK.is("two", x.settle(5, 2, 0, 1), 2);
        CHECK.is("one more by the demand", x.settle(5, 3, 0, 1), 2);
        CHECK.conflict(x, 1, 6, 0, 3);
        CHECK.is("and one more", x.settle(5, 1, 0, 1), 2);
        CHECK.is("one", x.settle(6, 0, 2, 0), 1);
        CHECK.is("none", x.settle(6, 0, 3, 1), 0);
    }

    /** "The CHOICE is taken back: which it was. NONE (STATUS 1): there is none." */
    private static void takenBack() {
        for (int choice = 0; choice < 3; choice++) {
            TableMerge x = Check.told(CELLS_MEET);
            CHECK.is("there is none", x.unsettle(5, 1, 0), -1);
            x.settle(5, 1, 0, choice);
            CHECK.is("which it was", x.unsettle(5, 1, 0), choice);
            CHECK.is("there is none any more", x.unsettle(5, 1, 0), -1);
            CHECK.is("refused", x.count(13), 2);
            CHECK.is("conflicts", x.count(5), 1);
            CHECK.is("the BASE's", x.cell(3, 1, 0), 1);
            CHECK.is("acts", x.count(9), 2);
        }
    }

    /** "UNSETTLING (a CHOICE is taken back)": one that waits, too. */
    private static void takenBackWhileItWaits() {
        TableMerge x = Check.told(CELLS_MEET);
        x.settle(5, 1, 0, 2);
        x.delete(0, 1);
        x.delete(1, 1);
        CHECK.is("its row is gone, it waits", x.count(7), 1);
        CHECK.is("taken back", x.unsettle(5, 1, 0), 2);
        CHECK.is("none waits", x.count(7) + x.count(6), 0);
        x.undo();
        x.undo();
        x.undo();
        CHECK.is("undone: settled as it was", x.cell(3, 1, 0), 6);
    }

    /** "FLIPPING (LEFT and RIGHT change about)". */
    private static void sidesChangeAbout() {
        TableMerge x = Check.told("column a number;column b number;row 1 1 2;row 2 3 4;left set 1 0 5;left insert 9;left rename 0 x;right retype 1 flag;right delete 2;");
        x.flip();
        CHECK.is("LEFT's rows", x.table(0, 1), 2);
        CHECK.is("RIGHT's rows", x.table(1, 1), 2 + 4 + 512);
        CHECK.is("LEFT's cell", x.cell(0, 1, 0), 1);
        CHECK.is("RIGHT's cell", x.cell(1, 1, 0), 5);
        CHECK.is("LEFT's type", x.column(0, 1, 1), 3);
        CHECK.is("RIGHT's name", x.column(1, 0, 0), 23);
        CHECK.is("RIGHT's cell is RIGHT's", x.whose(1, 0), 2);
        CHECK.is("the BASE stays", x.cell(2, 1, 0), 1);
        CHECK.is("an act", x.count(9), 1);
        String flipped = Everything.of(x);
        x.flip();
        x.flip();
        CHECK.yes("twice is nothing, but for the acts", Everything.of(x).replace("count 9=3", "count 9=1").equals(flipped));
    }

    /** "numbers of added COLUMNS 5, 6 with 7, 8". */
    private static void addedNumbersChangeAbout() {
        TableMerge x = Check.told("row 0;row 19;left add a number;left add b digit;right add c even;right add d flag;left set 0 5 1;left set 19 6 2;right set 0 7 4;right set 19 8 1;");
        x.flip();
        CHECK.is("LEFT's columns", x.table(0, 0), 3 << 5);
        CHECK.is("RIGHT's columns", x.table(1, 0), 3 << 7);
        int[] names = {2, 3, 0, 1};
        int[] types = {2, 3, 0, 1};
        for (int c = 5; c < 9; c++) {
            CHECK.is("name of " + c, x.column(c < 7 ? 0 : 1, c, 0), names[c - 5]);
            CHECK.is("type of " + c, x.column(c < 7 ? 0 : 1, c, 1), types[c - 5]);
        }
        CHECK.is("LEFT's 5", x.cell(0, 0, 5), 4);
        CHECK.is("LEFT's 6", x.cell(0, 19, 6), 1);
        CHECK.is("RIGHT's 7", x.cell(1, 0, 7), 1);
        CHECK.is("RIGHT's 8", x.cell(1, 19, 8), 2);
        CHECK.is("no number is left, of LEFT", x.add(0, 20, 0), -1);
        CHECK.is("no number is left, of RIGHT", x.add(1, 20, 0), -1);
        TableMerge one = Check.told("left add a number;left drop 5;");
        one.flip();
        CHECK.is("RIGHT had one", one.add(1, 0, 0), 8);
        CHECK.is("LEFT had none", one.add(0, 0, 0), 5);
    }

    /** "of CHOICES of CONFLICTS 1, 2, 5 1 with 2". */
    private static void choicesChangeAbout() {
        int[] due = {0, 2, 1};
        for (int choice = 0; choice < 3; choice++) {
            TableMerge x = Check.told("column a number;row 1 1;left rename 0 b;right rename 0 c;left retype 0 digit;right retype 0 even;left set 1 0 8;right set 1 0 6;");
            x.settle(1, 0, 0, choice);
            x.settle(2, 0, 0, choice);
            x.settle(5, 1, 0, choice);
            int name = x.column(3, 0, 0);
            int type = x.column(3, 0, 1);
            int cell = x.cell(3, 1, 0);
            x.flip();
            CHECK.is("name as ever", x.column(3, 0, 0), name);
            CHECK.is("type as ever", x.column(3, 0, 1), type);
            CHECK.is("cell as ever", x.cell(3, 1, 0), cell);
            CHECK.is("choice of 1", x.unsettle(1, 0, 0), due[choice]);
            CHECK.is("choice of 2", x.unsettle(2, 0, 0), due[choice]);
            CHECK.is("choice of 5", x.unsettle(5, 1, 0), due[choice]);
        }
        for (int choice = 0; choice < 2; choice++) {
            TableMerge x = Check.told("column a number;column b number;row 1 1 _;row 2 2 2;needed 1;left drop 0;right set 1 0 5;left delete 2;right set 2 1 3;left add z flag;right add z digit;");
            x.settle(0, 0, 0, choice);
            x.settle(3, 7, 0, choice);
            x.settle(4, 2, 0, choice);
            x.settle(6, 0, 1, choice);
            CHECK.is("all settled", x.count(5), 0);
            x.flip();
            CHECK.is("choice of 0 stays", x.unsettle(0, 0, 0), choice);
            CHECK.is("choice of 3 is at 5", x.unsettle(3, 5, 0), choice);
            CHECK.is("choice of 4 stays", x.unsettle(4, 2, 0), choice);
            CHECK.is("choice of 6 stays", x.unsettle(6, 0, 1), choice);
        }
    }

    /** "numbers of added COLUMNS .., in CHOICES, too". */
    private static void choicesOfAddedColumns() {
        for (int second = 0; second < 2; second++) {
            TableMerge x = Check.told("row 0;row 19;" + (second == 0 ? "" : "left add y flag;right add x flag;") + "left add z digit;right add z digit;"
                    + "left set 0 " + (5 + second) + " 1;right set 0 " + (7 + second) + " 2;left set 19 " + (5 + second) + " 3;right set 19 " + (7 + second) + " 4;");
            x.settle(5, 0, 5 + second, 1);
            x.settle(5, 19, 5 + second, 2);
            CHECK.is("settled", x.count(5), 0);
            x.flip();
            CHECK.is("they wait under RIGHT's number", x.count(7), 2);
            CHECK.is("and the cells meet under LEFT's", x.count(5), 2);
            CHECK.is("of key 0", x.unsettle(5, 0, 7 + second), 2);
            CHECK.is("of key 19", x.unsettle(5, 19, 7 + second), 1);
            CHECK.is("none is left", x.count(6), 0);
            TableMerge y = Check.told((second == 0 ? "" : "left add y flag;right add x flag;") + "left add z digit;right add z even;");
            y.settle(3, 7 + second, 0, 1);
            y.flip();
            CHECK.is("3 waits", y.count(7), 1);
            CHECK.is("under LEFT's number", y.unsettle(3, 5 + second, 0), 1);
            y.undo();
            y.flip();
            CHECK.is("and is back", y.unsettle(3, 7 + second, 0), 1);
        }
    }

    /** "COMMITTED, if there are no CONFLICTS". */
    private static void committedWithoutConflicts() {
        TableMerge x = Check.told("column a number;row 1 1;row 2 2;left set 1 0 5;right set 1 0 6;left set 2 0 8;");
        CHECK.is("one conflict", x.commit(), -1);
        CHECK.is("refused", x.count(13), 1);
        CHECK.is("the BASE as it was", x.cell(2, 2, 0), 2);
        x.settle(5, 1, 0, 0);
        CHECK.is("none", x.commit(), 2);
        CHECK.is("the BASE's", x.cell(2, 1, 0), 1);
        CHECK.is("LEFT's", x.cell(2, 2, 0), 8);
        CHECK.is("again, as it is", x.commit(), 2);
        CHECK.is("three acts", x.count(9), 3);
        CHECK.is("of nothing", new TableMerge().commit(), 0);
    }

    /** "(at most 5 ..)"; "more than 5 COLUMNS". */
    private static void fiveColumns() {
        TableMerge x = Check.told("column a number;column b number;column c number;column d number;column e number;row 19 1 2 3 4 5;");
        CHECK.is("five", x.commit(), 1);
        x.add(1, 20, 0);
        CHECK.is("six", x.commit(), -1);
        CHECK.is("refused", x.count(13), 1);
        CHECK.is("the BASE's columns", x.table(2, 0), 31);
        x.drop(0, 0);
        CHECK.is("five again", x.commit(), 1);
        CHECK.is("the BASE's columns", x.table(2, 0), 31);
        CHECK.is("the added one is the last", x.column(2, 4, 0), 20);
        CHECK.is("its cell", x.cell(2, 19, 4), EMPTY);
        CHECK.is("the others moved", x.cell(2, 19, 3), 5);
        TableMerge twins = Check.told("column a number;column b number;column c number;left add d flag;left add e flag;right add e flag;right add d flag;");
        CHECK.is("seven, two of which are one with others", twins.commit(), 0);
        CHECK.is("columns", twins.table(2, 0), 31);
        TableMerge nine = Check.told("column a number;column b number;column c number;column d number;column e number;left add f flag;left add g flag;right add h flag;right add i flag;");
        CHECK.is("nine", nine.commit(), -1);
    }

    /** "(.. at most 12 ROWS)"; "more than .. 12 ROWS". */
    private static void twelveRows() {
        TableMerge x = new TableMerge();
        for (int k = 0; k < 6; k++) {
            x.insert(0, k);
            x.insert(1, 19 - k);
        }
        CHECK.is("twelve", x.commit(), 12);
        CHECK.is("their keys", x.table(2, 1), 0x3f | 0x3f << 14);
        CHECK.no("a side is full", x.insert(0, 10));
        x.delete(0, 0);
        x.insert(0, 10);
        x.insert(0, 0);
        CHECK.is("twelve", x.count(4), 12);
        x.delete(0, 10);
        x.insert(0, 11);
        TableMerge y = new TableMerge();
        for (int k = 0; k < 12; k++) {
            y.insert(0, k);
        }
        y.insert(1, 12);
        CHECK.is("thirteen", y.commit(), -1);
        CHECK.is("refused", y.count(13), 1);
        CHECK.is("the BASE's rows", y.count(1), 0);
        y.undo();
        CHECK.is("twelve", y.commit(), 12);
        CHECK.is("the BASE's rows", y.count(1), 12);
    }

    /** "COLUMNS numbered anew in order". */
    private static void columnsNumberedAnew() {
        TableMerge x = Check.told("column a number;column b digit;column c even;row 0 1 2 4;row 19 -1 9 -998;left drop 1;left add x flag;right add y flag;right add z digit;left drop 5;left add w even;"
                + "left set 0 6 8;right set 19 7 1;right set 0 8 7;");
        CHECK.is("columns ahead", x.table(3, 0), 0b111000101);
        CHECK.is("committed", x.commit(), 2);
        int[] names = {0, 2, 22, 24, 25};
        int[] types = {0, 2, 2, 3, 1};
        int[] first = {1, 4, 8, EMPTY, 7};
        int[] last = {-1, -998, EMPTY, 1, EMPTY};
        for (int table = 0; table < 4; table++) {
            CHECK.is("columns of " + table, x.table(table, 0), 31);
            for (int c = 0; c < 5; c++) {
                CHECK.is("name of " + c, x.column(table, c, 0), names[c]);
                CHECK.is("type of " + c, x.column(table, c, 1), types[c]);
                CHECK.is("cell of 0, " + c, x.cell(table, 0, c), first[c]);
                CHECK.is("cell of 19, " + c, x.cell(table, 19, c), last[c]);
            }
        }
    }

    /** "DEMANDS of COLUMNS that are there still". */
    private static void demandsThatAreThereStill() {
        TableMerge x = Check.told("column a number;column b number;column c number;row 1 1 2 3;below 0 1;unique 0;needed 2;below 1 2;left drop 0;");
        CHECK.is("four", x.count(2), 4);
        CHECK.is("committed", x.commit(), 1);
        CHECK.is("two", x.count(2), 2);
        x.set(0, 1, 1, EMPTY);
        CHECK.is("conflicts", x.count(5), 1);
        CHECK.conflict(x, 0, 6, 0, 1);
        x.undo();
        x.set(0, 1, 0, 3);
        CHECK.conflict(x, 0, 6, 1, 1);
        x.undo();
        x.undo();
        CHECK.is("undone: four", x.count(2), 4);
        TableMerge behind = Check.told("column a number;column b number;column c number;row 1 1 2 3;needed 2;below 0 2;left drop 1;");
        behind.commit();
        behind.set(0, 1, 1, EMPTY);
        CHECK.is("NEEDED of the column that was 2", behind.count(5), 1);
        CHECK.conflict(behind, 0, 6, 0, 1);
        behind.set(0, 1, 1, 0);
        CHECK.is("BELOW of those that were 0 and 2", behind.count(5), 1);
        CHECK.conflict(behind, 0, 6, 1, 1);
        TableMerge all5 = Check.told("column a number;column b number;column c number;column d number;column e number;row 1 1 2 3 4 5;needed 4;needed 3;needed 1;needed 0;");
        all5.commit();
        for (int c = 0; c < 5; c++) {
            all5.set(0, 1, c, EMPTY);
            CHECK.is("NEEDED of 0, 1, 3, 4: by " + c, all5.count(5), c == 2 ? 0 : 1);
            if (c != 2) {
                CHECK.conflict(all5, 0, 6, c == 0 ? 3 : c == 1 ? 2 : c == 3 ? 1 : 0, 1);
            }
            all5.undo();
        }
        TableMerge second = Check.told("column a number;column b number;below 0 1;needed 0;needed 0;unique 0;right drop 1;");
        second.commit();
        CHECK.is("without the second of BELOW", second.count(2), 3);
        TableMerge all = Check.told("column a number;unique 0;left drop 0;");
        all.commit();
        CHECK.is("none", all.count(2), 0);
    }

    /** "both sides as it (all their numbers not had yet)". */
    private static void bothSidesAsIt() {
        TableMerge x = Check.told("column a number;row 1 1;left add b flag;left add c flag;right add d flag;left drop 5;right delete 1;right insert 2;");
        CHECK.is("no number left", x.add(0, 20, 0), -1);
        CHECK.is("committed", x.commit(), 1);
        for (int side = 0; side < 2; side++) {
            for (int what = 0; what < 7; what++) {
                CHECK.is("no difference", x.difference(side, what), 0);
            }
            CHECK.is("columns", x.table(side, 0), 7);
            CHECK.is("rows", x.table(side, 1), 4);
        }
        CHECK.is("LEFT's first", x.add(0, 20, 0), 5);
        CHECK.is("LEFT's second", x.add(0, 21, 0), 6);
        CHECK.is("RIGHT's first", x.add(1, 20, 0), 7);
        CHECK.is("RIGHT's second", x.add(1, 21, 0), 8);
        CHECK.is("LEFT's third", x.add(0, 22, 0), -1);
        for (int i = 0; i < 5; i++) {
            x.undo();
        }
        CHECK.is("undone: LEFT's columns", x.table(0, 0), 1 | 1 << 6);
        CHECK.is("undone: LEFT's two were had", x.add(0, 22, 0), -1);
        CHECK.is("undone: RIGHT's first was", x.add(1, 22, 0), 8);
    }

    /** A CONFLICT that is SETTLED is none: the BASE is as the CHOICES made it. */
    private static void committedAsChoicesMadeIt() {
        TableMerge x = Check.told("column b number;column c number;column d number;row 1 5 6 7;row 2 5 8 9;unique 0;needed 0;"
                + "left rename 1 x;right rename 2 x;left retype 1 digit;right retype 1 even;left set 1 1 3;right set 1 1 8;");
        CHECK.is("conflicts", x.count(5), 4);
        x.settle(2, 1, 0, 2);
        x.settle(3, 2, 0, 0);
        x.settle(5, 1, 1, 1);
        x.settle(6, 0, 2, 0);
        CHECK.is("one more by the demand behind it", x.count(5), 1);
        x.settle(6, 1, 2, 0);
        CHECK.is("committed", x.commit(), 2);
        CHECK.is("LEFT's name", x.column(2, 1, 0), 23);
        CHECK.is("RIGHT's type", x.column(2, 1, 1), 2);
        CHECK.is("the least name", x.column(2, 2, 0), 0);
        CHECK.is("LEFT's cell, cast", x.cell(2, 1, 1), 2);
        CHECK.is("made 0", x.cell(2, 2, 0), 0);
        CHECK.is("the BASE's now", x.whose(2, 0), 0);
        CHECK.is("no conflict", x.count(5), 0);
        CHECK.is("demands", x.count(2), 2);
    }

    /** "CHOICES are gone", those that wait, too. */
    private static void choicesAreGone() {
        TableMerge x = Check.told(CELLS_MEET);
        x.settle(5, 1, 0, 2);
        x.commit();
        CHECK.is("none", x.count(6), 0);
        x.set(0, 1, 0, 7);
        x.set(1, 1, 0, 8);
        CHECK.is("a conflict, as without", x.count(5), 1);
        TableMerge y = Check.told(CELLS_MEET);
        y.settle(5, 1, 0, 1);
        y.set(0, 1, 0, 6);
        CHECK.is("one waits", y.count(7), 1);
        y.commit();
        CHECK.is("none waits", y.count(6) + y.count(7), 0);
        y.undo();
        CHECK.is("undone: one waits", y.count(7), 1);
    }

    /** "ACTS (at most 30 are kept, the latest ones)"; "The last ACT is UNDONE: how many are left. NONE: there is none." */
    private static void thirtyActs() {
        for (int acts : new int[] {0, 1, 29, 30, 31, 32, 61, 62, 93}) {
            TableMerge x = Check.told("column a number;row 1 0;");
            for (int i = 1; i <= acts; i++) {
                x.set(i % 2, 1, 0, i);
            }
            int kept = Math.min(30, acts);
            CHECK.is("kept of " + acts, x.count(9), kept);
            for (int left = kept - 1; left >= 0; left--) {
                CHECK.is("undone", x.undo(), left);
                int then = acts - kept + left;
                CHECK.is("the latest set then", then == 0 ? 0 : x.cell(then % 2, 1, 0), then);
                CHECK.is("acts", x.count(9), left);
            }
            CHECK.is("none left", x.undo(), -1);
            CHECK.is("not refused", x.count(13), 0);
            CHECK.yes("an act again", x.set(0, 1, 0, 500));
            CHECK.is("one", x.count(9), 1);
            CHECK.is("undone", x.undo(), 0);
        }
    }

    /** A refused ACT is none: with 30 that are kept, each of them is undone as it was. */
    private static void refusedBehindThirty() {
        for (int acts : new int[] {29, 30, 31, 45, 60, 61}) {
            TableMerge x = Check.told("column a number;row 1 0;");
            for (int i = 1; i <= acts; i++) {
                x.set(0, 1, 0, i);
            }
            x.set(0, 1, 0, acts);
            x.insert(1, 20);
            x.settle(5, 1, 0, 0);
            x.unsettle(5, 1, 0);
            x.add(0, 0, 0);
            CHECK.is("refused", x.count(13), 5);
            int kept = Math.min(30, acts);
            CHECK.is("kept", x.count(9), kept);
            for (int left = kept - 1; left >= 0; left--) {
                CHECK.is("undone", x.undo(), left);
                CHECK.is("the number then", x.cell(0, 1, 0), acts - kept + left);
            }
            CHECK.is("none left", x.undo(), -1);
        }
    }

    /** "EDITS by hand, SETTLING, UNSETTLING, FLIPPING, COMMITTING. They are UNDONE, the last one first." */
    private static void everyKindOfActIsUndone() {
        TableMerge x = Check.told("column a number;column b number;row 1 1 2;row 2 3 4;left set 1 0 5;right set 1 0 6;");
        String[] then = new String[12];
        for (int act = 0; act <= 10; act++) {
            then[act] = tablesOf(x);
            switch (act) {
                case 0: x.settle(5, 1, 0, 1); break;
                case 1: x.unsettle(5, 1, 0); break;
                case 2: x.flip(); break;
                case 3: x.settle(5, 1, 0, 1); break;
                case 4: x.commit(); break;
                case 5: x.insert(0, 9); break;
                case 6: x.delete(1, 2); break;
                case 7: x.rename(0, 1, 9); break;
                case 8: x.retype(1, 1, 3); break;
                case 9: x.add(0, 20, 2); break;
                default: x.drop(1, 0); break;
            }
            CHECK.is("acts", x.count(9), act + 1);
            CHECK.no("act " + act + " changes something", tablesOf(x).equals(then[act]));
        }
        for (int act = 10; act >= 0; act--) {
            CHECK.is("undone", x.undo(), act);
            CHECK.yes("act " + act + " is undone", tablesOf(x).equals(then[act]));
        }
    }

    private static String tablesOf(TableMerge x) {
        StringBuilder all = new StringBuilder();
        for (int table = 0; table < 4; table++) {
            all.append(x.table(table, 0)).append(' ').append(x.table(table, 1)).append(';');
        }
        all.append(x.cell(0, 1, 0)).append(' ').append(x.cell(2, 1, 0)).append(' ').append(x.column(0, 1, 0)).append(' ').append(x.column(1, 1, 1));
        return all.append(' ').append(x.count(5)).append(' ').append(x.count(6)).toString();
    }

    /** "ACTS: EDITS by hand, SETTLING, UNSETTLING, FLIPPING, COMMITTING": and no other call. */
    private static void undoIsNoAct() {
        TableMerge x = Check.told("row 1;");
        x.insert(0, 2);
        x.insert(0, 3);
        CHECK.is("one left", x.undo(), 1);
        CHECK.is("none left", x.undo(), 0);
        CHECK.is("no undo of an undo", x.undo(), -1);
        CHECK.is("rows", x.table(0, 1), 2);
        x.see(1, 0, 0);
        x.image();
        x.forget();
        CHECK.is("see, image and forget are no acts", x.undo(), -1);
        x.restore();
        CHECK.is("restore is none", x.undo(), -1);
    }

    /** "kept as an image, in place of another one"; "They are as the image again: true. False: there is none." */
    private static void imageInPlaceOfAnother() {
        TableMerge x = Check.told("row 1;");
        CHECK.no("none", x.restore());
        CHECK.is("not refused", x.count(12) + x.count(13) + x.count(14), 0);
        x.image();
        x.insert(0, 2);
        CHECK.yes("restored", x.restore());
        CHECK.is("rows", x.table(0, 1), 2);
        x.insert(0, 3);
        x.image();
        x.insert(0, 4);
        CHECK.yes("restored", x.restore());
        CHECK.is("the latter one", x.table(0, 1), 10);
        x.delete(0, 1);
        CHECK.yes("as often as is asked for", x.restore());
        CHECK.is("the latter one", x.table(0, 1), 10);
        CHECK.is("its act", x.undo(), 0);
        CHECK.yes("restored", x.restore());
        CHECK.is("its act is there again", x.count(9), 1);
    }

    /** "The BASE, both sides, DEMANDS, CHOICES, ACTS and what is SEEN are kept as an image". */
    private static void imageOfAllThatItKeeps() {
        TableMerge x = Check.told("column a number;column b digit;row 1 1 2;unique 0;needed 1;left add z flag;right add y even;left set 1 0 5;right set 1 0 6;right drop 1;left set 1 1 3;");
        x.settle(5, 1, 0, 1);
        x.insert(0, 4);
        x.see(1, 0, 5);
        x.see(1, 1, 3);
        String then = Everything.of(x);
        x.image();
        x.settle(0, 1, 0, 1);
        x.forget();
        x.see(4, 5, 7);
        x.see(19, 8, EMPTY);
        x.see(0, 0, -999);
        x.flip();
        x.delete(0, 1);
        x.undo();
        x.unsettle(5, 1, 0);
        CHECK.no("all is another", Everything.of(x).equals(then));
        CHECK.yes("restored", x.restore());
        CHECK.yes("all is as it was", Everything.of(x).equals(then));
        CHECK.is("an added number is had", x.add(0, 20, 0), 6);
        CHECK.is("and no more", x.add(0, 21, 0), -1);
    }

    /** "ACTS (at most 30 are kept, the latest ones)", in an image, too. */
    private static void imageOfThirtyActs() {
        TableMerge x = Check.told("column a number;row 1 0;");
        for (int i = 1; i <= 45; i++) {
            x.set(0, 1, 0, i);
        }
        x.image();
        for (int i = 0; i < 20; i++) {
            x.undo();
        }
        for (int i = 1; i <= 25; i++) {
            x.set(1, 1, 0, i);
        }
        x.restore();
        CHECK.is("thirty", x.count(9), 30);
        for (int left = 29; left >= 0; left--) {
            CHECK.is("undone", x.undo(), left);
            CHECK.is("then", x.cell(0, 1, 0), left + 15);
        }
        CHECK.is("none", x.undo(), -1);
        CHECK.yes("once more", x.restore());
        x.set(0, 1, 0, 46);
        CHECK.is("thirty still", x.count(9), 30);
        for (int left = 29; left >= 0; left--) {
            x.undo();
            CHECK.is("then", x.cell(0, 1, 0), left + 16);
        }
    }

    /** The tape, the FAULT's place and STATUS are no part of it. */
    private static void whatNoImageKeeps() {
        TableMerge x = Check.told("row 1;");
        x.image();
        Check.feed(x, "?");
        x.tables(1);
        x.insert(0, 1);
        x.see(0, 0, 1000);
        Check.feed(x, "row 1;");
        x.restore();
        CHECK.is("the place", x.fault(), 0);
        CHECK.is("the tape", x.count(11), 20);
        CHECK.is("texts refused", x.count(12), 1);
        CHECK.is("acts refused", x.count(13), 1);
        CHECK.is("not seen", x.count(14), 1);
    }

    /** "CHOICES, ACTS, what is SEEN, the image are gone (STATUS stays)." */
    private static void tablesTakeAll() {
        TableMerge x = Check.told(CELLS_MEET);
        x.settle(5, 1, 0, 1);
        x.see(1, 0, 5);
        x.image();
        x.set(0, 9, 9, 9);
        x.see(9, 9, 9);
        Check.feed(x, "?");
        x.tables(1);
        CHECK.is("all there behind a fault", x.count(6) + x.count(9) + x.count(10), 3);
        Check.feed(x, CELLS_MEET);
        CHECK.is("told anew", x.tables(CELLS_MEET.length()), 0);
        CHECK.is("no choice", x.count(6), 0);
        CHECK.is("no act", x.count(9), 0);
        CHECK.is("none seen", x.count(10), 0);
        CHECK.is("a conflict", x.count(5), 1);
        CHECK.is("STATUS stays", x.count(12) * 100 + x.count(13) * 10 + x.count(14), 111);
        CHECK.no("no image", x.restore());
        CHECK.is("nothing to undo", x.undo(), -1);
        CHECK.is("no choice to take back", x.unsettle(5, 1, 0), -1);
    }
}
