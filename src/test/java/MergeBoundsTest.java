/** The bounds of promises 5 to 10 and of MERGED (a) to (e), CONFLICTS, CHOICES, WHOSE: one method for each sentence. */
public final class MergeBoundsTest {
    private static final Check CHECK = new Check();
    private static final int EMPTY = TableMerge.EMPTY;
    private static final String[] TYPES = {"number", "digit", "even", "flag"};

    public static void main(String[] args) {
        changedAgainstTheBase();
        columnGoneInBoth();
        columnGoneInOne();
        columnKept();
        nameOfAColumn();
        typesOfAllKinds();
        addedColumnsThere();
        oneWithLefts();
        nameOfOneAhead();
        leastNameThatNoneHas();
        rowGoneInBoth();
        rowGoneInOne();
        rowKept();
        rowsThatASideHas();
        cellsOfNoSideOfOneOfBoth();
        alikeWhenCast();
        sideWithoutRowOrColumn();
        uniqueDemand();
        neededDemand();
        belowDemand();
        demandsIfColumnsAreThere();
        demandsByNumbersThenKeys();
        asItIsBehindAllChoicesAhead();
        orderOfAll();
        choicesOfEachKind();
        byLeftByRight();
        whoseOfEachKind();
        countsOfAll();
        CHECK.end();
    }

    private static void none(String label, TableMerge x) {
        CHECK.is(label + ": conflicts", x.count(5), 0);
    }

    private static void one(String label, TableMerge x, int kind, int a, int b) {
        CHECK.is(label + ": conflicts", x.count(5), 1);
        CHECK.conflict(x, 0, kind, a, b);
    }

    /** "A side's CELL is CHANGED against the BASE: it isn't the BASE's, CAST to the side's TYPE (of a COLUMN or ROW that the BASE hasn't: EMPTY)." */
    private static void changedAgainstTheBase() {
        String told = "column a number;row 1 15;";
        CHECK.is("as it was", Check.told(told).difference(0, 0), 0);
        CHECK.is("cast", Check.told(told + "left retype 0 digit;").difference(0, 0), 0);
        CHECK.is("cast, and set", Check.told(told + "left retype 0 digit;left set 1 0 6;").difference(0, 0), 1);
        CHECK.is("set, then cast to what the BASE's is", Check.told(told + "left set 1 0 25;left retype 0 digit;").difference(0, 0), 0);
        CHECK.is("cast and cast again", Check.told(told + "left retype 0 digit;left retype 0 flag;").difference(0, 0), 0);
        CHECK.is("cast to EVEN, then DIGIT: 4, not 5", Check.told(told + "left retype 0 even;left retype 0 digit;").difference(0, 0), 1);
        CHECK.is("EMPTY", Check.told(told + "left set 1 0 _;").difference(0, 0), 1);
        TableMerge row = Check.told(told + "left insert 2;");
        CHECK.is("EMPTY in a new row", row.whose(2, 0), 0);
        row.set(0, 2, 0, 0);
        CHECK.is("0 in a new row", row.whose(2, 0), 1);
        TableMerge column = Check.told(told + "right add z flag;");
        CHECK.is("EMPTY in a new column", column.whose(1, 7), 0);
        column.set(1, 1, 7, 0);
        CHECK.is("0 in a new column", column.whose(1, 7), 2);
        CHECK.is("not of the BASE's rows and columns", column.difference(1, 0) + row.difference(0, 0), 0);
    }

    /** "COLUMNS of the BASE: gone in both: gone". */
    private static void columnGoneInBoth() {
        TableMerge x = Check.told("column a number;column b number;row 1 1 2;left set 1 0 9;left rename 0 z;left drop 0;right drop 0;");
        none("gone in both", x);
        CHECK.is("columns", x.table(3, 0), 2);
    }

    /** "gone in one: gone, if the other one has its NAME and TYPE, and no CELL of it CHANGED (of ROWS that it has, INSERTED ones, too)". */
    private static void columnGoneInOne() {
        String told = "column a number;column b number;row 1 1 2;row 2 3 4;";
        String[][] sides = {{"left", "right"}, {"right", "left"}};
        for (String[] s : sides) {
            String drop = told + s[0] + " drop 0;";
            String other = s[1];
            TableMerge x = Check.told(drop);
            none("as the BASE", x);
            CHECK.is("gone", x.table(3, 0), 2);
            none("another column's cell", Check.told(drop + other + " set 1 1 9;"));
            none("a cell set and set back", Check.told(drop + other + " set 1 0 9;" + other + " set 1 0 1;"));
            none("renamed and back", Check.told(drop + other + " rename 0 z;" + other + " rename 0 a;"));
            none("an inserted row, EMPTY", Check.told(drop + other + " insert 3;"));
            none("a row that is gone with its cell", Check.told(drop + other + " set 1 0 9;" + other + " delete 1;"));
            none("retyped and back, cells as they were", Check.told(drop + other + " retype 0 digit;" + other + " retype 0 number;"));
            one("renamed", Check.told(drop + other + " rename 0 z;"), 0, 0, 0);
            one("retyped", Check.told(drop + other + " retype 0 digit;"), 0, 0, 0);
            one("a cell changed", Check.told(drop + other + " set 1 0 9;"), 0, 0, 0);
            one("a cell EMPTY", Check.told(drop + other + " set 2 0 _;"), 0, 0, 0);
            one("of key 0 alone", Check.told("column a number;row 0 1;" + s[0] + " drop 0;" + other + " set 0 0 2;"), 0, 0, 0);
            one("of key 19 alone", Check.told("column a number;row 19 1;" + s[0] + " drop 0;" + other + " set 19 0 2;"), 0, 0, 0);
            one("an inserted row's cell", Check.told(drop + other + " insert 3;" + other + " set 3 0 0;"), 0, 0, 0);
            one("a row gone and there again", Check.told(drop + other + " delete 1;" + other + " insert 1;"), 0, 0, 0);
        }
        one("no rows, renamed", Check.told("column a number;left drop 0;right rename 0 b;"), 0, 0, 0);
    }

    /** "CONFLICT 0: it is KEPT, as if the side where it is gone had it as the BASE". */
    private static void columnKept() {
        TableMerge x = Check.told("column a number;row 1 15;row 2 26;left drop 0;right rename 0 z;right retype 0 digit;right set 2 0 7;");
        one("kept", x, 0, 0, 0);
        CHECK.is("RIGHT's name", x.column(3, 0, 0), 25);
        CHECK.is("RIGHT's type", x.column(3, 0, 1), 1);
        CHECK.is("the BASE's cell, cast", x.cell(3, 1, 0), 5);
        CHECK.is("the BASE's", x.whose(1, 0), 0);
        CHECK.is("RIGHT's cell", x.cell(3, 2, 0), 7);
        CHECK.is("RIGHT's", x.whose(2, 0), 2);
        CHECK.is("kept by choice 0", x.settle(0, 0, 0, 0), 0);
        CHECK.is("columns", x.table(3, 0), 1);
        CHECK.is("RIGHT's name still", x.column(3, 0, 0), 25);
        x.undo();
        CHECK.is("gone by choice 1", x.settle(0, 0, 0, 1), 0);
        CHECK.is("columns", x.table(3, 0), 0);
        CHECK.is("rows stay", x.table(3, 1), 6);
    }

    /** "NAME: alike, or the one that isn't the BASE's; both unlike the BASE's and one another: CONFLICT 1". */
    private static void nameOfAColumn() {
        for (char left = 'a'; left <= 'c'; left++) {
            for (char right = 'a'; right <= 'c'; right++) {
                TableMerge x = Check.told("column a number;" + (left == 'a' ? "" : "left rename 0 " + left + ";")
                        + (right == 'a' ? "" : "right rename 0 " + right + ";"));
                boolean meet = left != 'a' && right != 'a' && left != right;
                CHECK.is("conflicts of " + left + right, x.count(5), meet ? 1 : 0);
                CHECK.is("name of " + left + right, x.column(3, 0, 0), meet ? 0 : Math.max(left, right) - 'a');
                if (meet) {
                    CHECK.conflict(x, 0, 1, 0, 0);
                    int[] names = {0, left - 'a', right - 'a'};
                    for (int choice = 0; choice < 3; choice++) {
                        CHECK.is("settled", x.settle(1, 0, 0, choice), 0);
                        CHECK.is("name by choice " + choice, x.column(3, 0, 0), names[choice]);
                        x.undo();
                    }
                }
            }
        }
    }

    /** What the document says of two TYPES that are neither the BASE's nor alike, by hand: -1 is CONFLICT 2. */
    private static final int[] TOGETHER = {
        0, 1, 2, 3,
        1, 1, -1, 3,
        2, -1, 2, -1,
        3, 3, -1, 3};

    /** "TYPE so: alike, or the one that isn't the BASE's; else, by both: FLAG, if one is FLAG and the other one DIGIT; the one that isn't NUMBER, if one is NUMBER; else CONFLICT 2". */
    private static void typesOfAllKinds() {
        for (int base = 0; base < 4; base++) {
            for (int left = 0; left < 4; left++) {
                for (int right = 0; right < 4; right++) {
                    TableMerge x = Check.told("column a " + TYPES[base] + ";" + (left == base ? "" : "left retype 0 " + TYPES[left] + ";")
                            + (right == base ? "" : "right retype 0 " + TYPES[right] + ";"));
                    int due = left == base ? right : right == base ? left : TOGETHER[4 * left + right];
                    CHECK.is("conflicts of " + base + left + right, x.count(5), due < 0 ? 1 : 0);
                    CHECK.is("type of " + base + left + right, x.column(3, 0, 1), due < 0 ? base : due);
                    if (due < 0) {
                        CHECK.conflict(x, 0, 2, 0, 0);
                        int[] types = {base, left, right};
                        for (int choice = 0; choice < 3; choice++) {
                            CHECK.is("settled", x.settle(2, 0, 0, choice), 0);
                            CHECK.is("type by choice " + choice, x.column(3, 0, 1), types[choice]);
                            x.undo();
                        }
                    }
                }
            }
        }
    }

    /** "COLUMNS added by LEFT, then by RIGHT: there". */
    private static void addedColumnsThere() {
        TableMerge x = Check.told("left add a number;left add b digit;right add c even;right add d flag;");
        none("four added", x);
        CHECK.is("columns", x.table(3, 0), 0b111100000);
        for (int c = 5; c < 9; c++) {
            CHECK.is("name", x.column(3, c, 0), c - 5);
            CHECK.is("type", x.column(3, c, 1), c - 5);
        }
        TableMerge gone = Check.told("left add a number;right add c even;left drop 5;right drop 7;");
        CHECK.is("added and dropped", gone.table(3, 0), 0);
    }

    /** "one of RIGHT that has the NAME and TYPE of one of LEFT .. is one with it, under the number of LEFT's". */
    private static void oneWithLefts() {
        CHECK.is("first with first", Check.told("left add a flag;right add a flag;").table(3, 0), 1 << 5);
        CHECK.is("first with second", Check.told("left add b flag;left add a flag;right add a flag;").table(3, 0), 3 << 5);
        CHECK.is("second with first", Check.told("left add a flag;right add b flag;right add a flag;").table(3, 0), 1 << 5 | 1 << 7);
        CHECK.is("both, crosswise", Check.told("left add a flag;left add b even;right add b even;right add a flag;").table(3, 0), 3 << 5);
        one("the name alone", Check.told("left add a flag;right add a digit;"), 3, 7, 0);
        none("the type alone", Check.told("left add a flag;right add b flag;"));
        TableMerge never = Check.told("column a flag;left drop 0;right rename 0 b;left add b flag;");
        CHECK.is("with a column of the BASE it is never one", never.table(3, 0), 1 | 1 << 5);
        CHECK.conflict(never, 1, 3, 5, 0);
        TableMerge clash = Check.told("column a flag;right rename 0 b;left add b flag;");
        one("of the BASE: a name ahead", clash, 3, 5, 0);
        TableMerge x = Check.told("row 1;left add a digit;left set 1 5 3;right add b digit;right add a digit;right set 1 8 4;");
        one("its cells meet, under LEFT's number", x, 5, 1, 5);
        CHECK.is("settled by RIGHT's", x.settle(5, 1, 5, 2), 0);
        CHECK.is("RIGHT's cell", x.cell(3, 1, 5), 4);
        CHECK.is("RIGHT's", x.whose(1, 5), 2);
    }

    /** "by numbers of all merged, one that has the NAME of one there ahead of it (as these are then): CONFLICT 3: it has it all the same." */
    private static void nameOfOneAhead() {
        TableMerge x = Check.told("column a number;column b number;column x number;left rename 2 p;left rename 0 x;right rename 2 q;right rename 1 x;");
        CHECK.is("conflicts", x.count(5), 3);
        CHECK.conflict(x, 0, 1, 2, 0);
        CHECK.conflict(x, 1, 3, 1, 0);
        CHECK.conflict(x, 2, 3, 2, 0);
        for (int c = 0; c < 3; c++) {
            CHECK.is("the name all the same", x.column(3, c, 0), 23);
        }
        CHECK.is("the second is gone, the third is like the first still", x.settle(3, 1, 0, 1), 2);
        CHECK.conflict(x, 1, 3, 2, 0);
        CHECK.is("LEFT's name: no clash", x.settle(1, 2, 0, 1), 0);
        CHECK.is("columns", x.table(3, 0), 5);
        TableMerge gone = Check.told("column a number;left drop 0;left add a flag;");
        none("a name that is free, as its column is gone", gone);
        TableMerge kept = Check.told("column a number;row 1 5;left drop 0;left add a flag;right set 1 0 1;");
        CHECK.is("the column is kept: a clash", kept.count(5), 2);
        CHECK.conflict(kept, 1, 3, 5, 0);
        CHECK.is("the kept one is gone: no clash", kept.settle(0, 0, 0, 1), 0);
    }

    /** "3: 0 it has the least NAME that no COLUMN merged has then, 1 it is gone". */
    private static void leastNameThatNoneHas() {
        TableMerge x = Check.told("column c number;column d number;left rename 0 x;right rename 1 x;left add a flag;right add b flag;");
        one("a clash", x, 3, 1, 0);
        CHECK.is("settled", x.settle(3, 1, 0, 0), 0);
        CHECK.is("a, b are had behind it: c", x.column(3, 1, 0), 2);
        TableMerge y = Check.told("column b number;column d number;left rename 0 x;right rename 1 x;");
        y.settle(3, 1, 0, 0);
        CHECK.is("a", y.column(3, 1, 0), 0);
        TableMerge two = Check.told("column a number;column b number;left rename 0 x;right rename 1 x;left add y flag;right add y digit;");
        CHECK.is("two clashes", two.count(5), 2);
        two.settle(3, 7, 0, 0);
        CHECK.is("the least one", two.column(3, 7, 0), 0);
        two.settle(3, 1, 0, 0);
        CHECK.is("the first comes first", two.column(3, 1, 0), 0);
        CHECK.is("then the next", two.column(3, 7, 0), 1);
        two.undo();
        two.settle(3, 1, 0, 1);
        CHECK.is("gone", two.table(3, 0), 1 | 1 << 5 | 1 << 7);
        TableMerge most = Check.told("column h number;column g number;column c number;column d number;column e number;left rename 0 x;right rename 1 x;"
                + "left add a number;left add b number;right add f number;right add i number;");
        one("nine columns, one clash", most, 3, 1, 0);
        CHECK.is("settled", most.settle(3, 1, 0, 0), 0);
        CHECK.is("g is free again", most.column(3, 1, 0), 6);
    }

    /** "ROWS of the BASE: gone in both: gone". */
    private static void rowGoneInBoth() {
        TableMerge x = Check.told("column a number;row 0 1;row 19 2;left set 19 0 5;left delete 19;right delete 19;");
        none("gone in both", x);
        CHECK.is("rows", x.table(3, 1), 1);
    }

    /** "gone in one: gone, if in the other one no CELL (of any COLUMN that it has, merged or not) is CHANGED, else CONFLICT 4". */
    private static void rowGoneInOne() {
        String told = "column a number;column b number;row 0 1 2;row 19 3 4;";
        String[][] sides = {{"left", "right", "7"}, {"right", "left", "5"}};
        for (String[] s : sides) {
            String delete = told + s[0] + " delete 19;";
            String other = s[1];
            TableMerge x = Check.told(delete);
            none("as the BASE", x);
            CHECK.is("gone", x.table(3, 1), 1);
            none("another row's cell", Check.told(delete + other + " set 0 0 9;"));
            none("set and set back", Check.told(delete + other + " set 19 0 9;" + other + " set 19 0 3;"));
            none("a column renamed", Check.told(delete + other + " rename 0 z;"));
            none("a column retyped: cast is not changed", Check.told(delete + other + " retype 0 flag;"));
            none("a column added, EMPTY", Check.told(delete + other + " add z flag;"));
            none("a column dropped with its cell", Check.told(delete + other + " set 19 0 9;" + other + " drop 0;"));
            one("a cell changed", Check.told(delete + other + " set 19 0 9;"), 4, 19, 0);
            one("a cell EMPTY", Check.told(delete + other + " set 19 1 _;"), 4, 19, 0);
            one("an added column's cell", Check.told(delete + other + " add z flag;" + other + " set 19 " + s[2] + " 0;"), 4, 19, 0);
            one("gone and there again", Check.told(delete + other + " delete 19;" + other + " insert 19;"), 4, 19, 0);
            TableMerge not = Check.told(delete + s[0] + " drop 0;" + other + " set 19 0 9;");
            CHECK.is("the column's conflict and the row's", not.count(5), 2);
            CHECK.is("a column that isn't merged counts, too", not.settle(0, 0, 0, 1), 1);
            CHECK.conflict(not, 0, 4, 19, 0);
        }
        none("a row without cells", Check.told("row 3;left delete 3;"));
    }

    /** "it is KEPT, as if the side where it is gone had it as the BASE". */
    private static void rowKept() {
        TableMerge x = Check.told("column a number;column b number;row 5 15 2;left delete 5;left retype 0 digit;right set 5 1 9;");
        one("kept", x, 4, 5, 0);
        CHECK.is("the BASE's cell, cast to the merged type", x.cell(3, 5, 0), 5);
        CHECK.is("the BASE's", x.whose(5, 0), 0);
        CHECK.is("RIGHT's cell", x.cell(3, 5, 1), 9);
        CHECK.is("kept by choice 0", x.settle(4, 5, 0, 0), 0);
        CHECK.is("rows", x.table(3, 1), 32);
        x.undo();
        CHECK.is("gone by choice 1", x.settle(4, 5, 0, 1), 0);
        CHECK.is("rows", x.table(3, 1), 0);
        CHECK.is("columns stay", x.table(3, 0), 3);
    }

    /** "else there: all that the BASE or a side has": of 20 KEYS at most. */
    private static void rowsThatASideHas() {
        TableMerge x = new TableMerge();
        for (int k = 0; k < 12; k++) {
            x.insert(0, k);
            x.insert(1, 19 - k);
        }
        CHECK.is("all twenty", x.table(3, 1), 0xfffff);
        CHECK.is("rows", x.count(4), 20);
        none("inserted by both", x);
        x.delete(0, 0);
        CHECK.is("inserted and gone", x.table(3, 1), 0xffffe);
        x.delete(0, 10);
        CHECK.is("the other one has it", x.table(3, 1), 0xffffe);
    }

    /** "of no side CHANGED: the BASE's; of one: that one's; of both, alike when CAST to the TYPE merged: that; else CONFLICT 5: the BASE's". */
    private static void cellsOfNoSideOfOneOfBoth() {
        String told = "column a number;row 0 5;";
        int[] numbers = {5, -5, 999, EMPTY};
        String[] cells = {"5", "-5", "999", "_"};
        for (int l = 0; l < 4; l++) {
            for (int r = 0; r < 4; r++) {
                TableMerge x = Check.told(told + (l == 0 ? "" : "left set 0 0 " + cells[l] + ";") + (r == 0 ? "" : "right set 0 0 " + cells[r] + ";"));
                boolean meet = l != 0 && r != 0 && l != r;
                CHECK.is("conflicts of " + l + r, x.count(5), meet ? 1 : 0);
                CHECK.is("cell of " + l + r, x.cell(3, 0, 0), numbers[meet ? 0 : Math.max(l, r)]);
                CHECK.is("whose, of " + l + r, x.whose(0, 0), meet ? 0 : (l != 0 ? 1 : 0) + (r != 0 ? 2 : 0));
            }
        }
        TableMerge both = Check.told("row 19;left add z digit;right add z digit;left set 19 5 0;right set 19 7 0;");
        CHECK.is("alike in a column of both", both.whose(19, 5), 3);
        TableMerge inserted = Check.told("column a number;left insert 19;right insert 19;left set 19 0 4;right set 19 0 -4;");
        one("a row inserted by both", inserted, 5, 19, 0);
        CHECK.is("the BASE's is EMPTY", inserted.cell(3, 19, 0), EMPTY);
    }

    /** "alike when CAST to the TYPE merged"; "all CAST to the TYPE merged". */
    private static void alikeWhenCast() {
        String told = "column a number;row 1 5;";
        TableMerge x = Check.told(told + "left set 1 0 17;right set 1 0 -27;right retype 0 digit;");
        none("17 and 7 are alike as digits", x);
        CHECK.is("7", x.cell(3, 1, 0), 7);
        CHECK.is("both's", x.whose(1, 0), 3);
        TableMerge y = Check.told(told + "left set 1 0 16;right retype 0 even;right set 1 0 8;");
        one("16 and 8 aren't alike", y, 5, 1, 0);
        CHECK.is("the BASE's 5 as an even one", y.cell(3, 1, 0), 4);
        TableMerge flag = Check.told(told + "left retype 0 digit;left set 1 0 7;right retype 0 flag;right set 1 0 0;");
        one("7 is 1 as a flag", flag, 5, 1, 0);
        CHECK.is("by LEFT", flag.conflict(0, 3), 1);
        CHECK.is("by RIGHT", flag.conflict(0, 4), 0);
        CHECK.is("the BASE's as a flag", flag.cell(3, 1, 0), 1);
        TableMerge chosen = Check.told("column a number;row 1 15;left retype 0 digit;left set 1 0 3;right retype 0 even;right set 1 0 8;");
        CHECK.is("a type and a cell", chosen.count(5), 2);
        CHECK.is("by LEFT, as the BASE's type", chosen.conflict(1, 3), 3);
        chosen.settle(2, 0, 0, 2);
        CHECK.is("by LEFT, as an even one", chosen.conflict(0, 3), 2);
        CHECK.is("the BASE's, as an even one", chosen.cell(3, 1, 0), 14);
        CHECK.is("LEFT's by the choice", chosen.settle(5, 1, 0, 1), 0);
        CHECK.is("LEFT's, as an even one", chosen.cell(3, 1, 0), 2);
        TableMerge single = Check.told(told + "left set 1 0 17;right retype 0 flag;");
        CHECK.is("LEFT's alone, cast", single.cell(3, 1, 0), 1);
        CHECK.is("LEFT's", single.whose(1, 0), 1);
        TableMerge empty = Check.told(told + "left set 1 0 _;right retype 0 flag;right set 1 0 0;");
        one("EMPTY and 0 aren't alike", empty, 5, 1, 0);
        CHECK.is("by LEFT", empty.conflict(0, 3), EMPTY);
    }

    /** "(A side that hasn't the ROW, the COLUMN: not CHANGED.)" */
    private static void sideWithoutRowOrColumn() {
        TableMerge x = Check.told("column a number;column b number;row 1 1 2;row 2 3 4;left drop 0;left delete 2;right set 1 0 9;right set 2 1 8;");
        x.settle(0, 0, 0, 0);
        x.settle(4, 2, 0, 0);
        none("kept, no cells meet", x);
        CHECK.is("RIGHT's", x.whose(1, 0), 2);
        CHECK.is("the BASE's of a row kept", x.cell(3, 2, 0), 3);
        CHECK.is("the BASE's", x.whose(2, 0), 0);
        CHECK.is("RIGHT's", x.whose(2, 1), 2);
        TableMerge added = Check.told("column a number;left add z flag;right insert 3;right set 3 0 5;");
        CHECK.is("EMPTY where LEFT has no row, RIGHT no column", added.cell(3, 3, 5), EMPTY);
        CHECK.is("the BASE's", added.whose(3, 5), 0);
    }

    /** "UNIQUE: its CELL isn't EMPTY and like one of a lesser KEY". */
    private static void uniqueDemand() {
        TableMerge x = Check.told("column a number;row 0 5;row 7 5;row 8 _;row 9 _;row 19 5;row 18 0;unique 0;");
        CHECK.is("conflicts", x.count(5), 2);
        CHECK.conflict(x, 0, 6, 0, 7);
        CHECK.conflict(x, 1, 6, 0, 19);
        none("one row", Check.told("column a number;row 0 5;unique 0;"));
        none("-5 and 5", Check.told("column a number;row 0 5;row 1 -5;unique 0;"));
        one("0 and 0", Check.told("column a number;row 0 0;row 1 0;unique 0;"), 6, 0, 1);
        CHECK.is("EMPTY then: the last one like the first still", x.settle(6, 0, 7, 0), 1);
        CHECK.is("its cell", x.cell(3, 7, 0), EMPTY);
        CHECK.is("the row is gone", x.settle(6, 0, 19, 1), 0);
        CHECK.is("rows", x.table(3, 1), 1 | 1 << 7 | 1 << 8 | 1 << 9 | 1 << 18);
        TableMerge cast = Check.told("column a number;row 0 15;row 1 25;unique 0;left retype 0 digit;");
        one("alike when merged", cast, 6, 0, 1);
    }

    /** "NEEDED: it is EMPTY"; choice 0: "of NEEDED 0 then". */
    private static void neededDemand() {
        for (String type : TYPES) {
            TableMerge x = Check.told("column a " + type + ";row 0 _;row 19 0;needed 0;");
            one("EMPTY", x, 6, 0, 0);
            CHECK.is("settled", x.settle(6, 0, 0, 0), 0);
            CHECK.is("0", x.cell(3, 0, 0), 0);
            CHECK.is("made", x.whose(0, 0), 4);
            x.undo();
            x.settle(6, 0, 0, 1);
            CHECK.is("the row is gone", x.table(3, 1), 1 << 19);
        }
        one("a row inserted", Check.told("column a number;needed 0;left insert 19;"), 6, 0, 19);
        none("no rows", Check.told("column a number;needed 0;"));
    }

    /** "BELOW: both CELLS aren't EMPTY, and the first one isn't less than the second". */
    private static void belowDemand() {
        String[] cells = {"-999", "-1", "0", "1", "999", "_"};
        for (int i = 0; i < 6; i++) {
            for (int j = 0; j < 6; j++) {
                TableMerge x = Check.told("column a number;column b number;row 4 " + cells[i] + " " + cells[j] + ";below 0 1;");
                CHECK.is("below " + cells[i] + " " + cells[j], x.count(5), i < 5 && j < 5 && i >= j ? 1 : 0);
                TableMerge y = Check.told("column a number;column b number;row 4 " + cells[i] + " " + cells[j] + ";below 1 0;");
                CHECK.is("below, the other way " + cells[i] + " " + cells[j], y.count(5), i < 5 && j < 5 && j >= i ? 1 : 0);
            }
        }
        TableMerge x = Check.told("column a number;column b number;row 4 3 2;below 0 1;");
        x.settle(6, 0, 4, 0);
        CHECK.is("the second is EMPTY", x.cell(3, 4, 1), EMPTY);
        CHECK.is("the first stays", x.cell(3, 4, 0), 3);
        CHECK.is("made", x.whose(4, 1), 4);
        CHECK.is("not made", x.whose(4, 0), 0);
        TableMerge y = Check.told("column a number;column b number;row 4 2 3;below 1 0;");
        y.settle(6, 0, 4, 0);
        CHECK.is("the second of 'below 1 0' is EMPTY", y.cell(3, 4, 0), EMPTY);
        CHECK.is("the first stays", y.cell(3, 4, 1), 3);
    }

    /** "if the COLUMNS are there". */
    private static void demandsIfColumnsAreThere() {
        String told = "column a number;column b number;row 1 5 5;row 2 5 _;unique 0;needed 1;below 0 1;";
        CHECK.is("all three", Check.told(told).count(5), 3);
        TableMerge first = Check.told(told + "left drop 0;");
        one("without the first", first, 6, 1, 2);
        TableMerge second = Check.told(told + "right drop 1;");
        one("without the second", second, 6, 0, 2);
        none("without both", Check.told(told + "right drop 1;left drop 0;"));
        CHECK.is("the demands stay", first.count(2), 3);
        CHECK.is("renamed, it is the column still", Check.told(told + "left rename 0 x;right rename 1 y;").count(5), 3);
    }

    /** "DEMANDS, by numbers, .. then ROWS, by KEYS: CONFLICT 6 (DEMAND, KEY)": 0 to 3, 0 to 19. */
    private static void demandsByNumbersThenKeys() {
        TableMerge x = Check.told("column a number;row 19 _;row 0 _;needed 0;needed 0;needed 0;needed 0;");
        CHECK.is("conflicts", x.count(5), 8);
        for (int i = 0; i < 8; i++) {
            CHECK.conflict(x, i, 6, i / 2, i % 2 == 0 ? 0 : 19);
        }
        CHECK.is("0 by the last one: the others stay", x.settle(6, 3, 19, 0), 7);
        CHECK.is("0 by the first one: the others wait", x.settle(6, 0, 19, 0), 4);
        CHECK.is("waits", x.count(7), 1);
    }

    /** "what is so is asked by what is there then, behind all CHOICES ahead". */
    private static void asItIsBehindAllChoicesAhead() {
        TableMerge x = Check.told("column a number;column b number;row 1 5 9;row 2 5 1;unique 0;below 0 1;needed 0;");
        CHECK.is("conflicts", x.count(5), 2);
        CHECK.is("EMPTY: no BELOW, but NEEDED", x.settle(6, 0, 2, 0), 1);
        CHECK.conflict(x, 0, 6, 2, 2);
        CHECK.is("0, by a DEMAND behind BELOW", x.settle(6, 2, 2, 0), 0);
        CHECK.is("its cell", x.cell(3, 2, 0), 0);
        x.undo();
        x.undo();
        CHECK.is("the row is gone: no more", x.settle(6, 0, 2, 1), 0);
        TableMerge y = Check.told("column a number;row 1 5;row 2 5;row 3 5;unique 0;left set 1 0 6;right set 1 0 7;");
        CHECK.is("conflicts", y.count(5), 3);
        CHECK.is("6: of the others the second is left", y.settle(5, 1, 0, 1), 1);
        CHECK.conflict(y, 0, 6, 0, 3);
        TableMerge gone = Check.told("column a number;row 1 5;row 2 5;row 3 5;unique 0;needed 0;");
        gone.settle(6, 0, 2, 1);
        one("the third is like the first", gone, 6, 0, 3);
    }

    /** (a) to (e), one behind the other. */
    private static void orderOfAll() {
        TableMerge x = Check.told("column a number;column b number;column c number;column d number;row 1 1 1 1 1;row 2 2 2 2 2;needed 3;"
                + "left drop 0;right set 1 0 5;left rename 1 x;right rename 1 y;left retype 1 digit;right retype 1 even;left rename 2 z;right rename 3 z;"
                + "left delete 2;right set 2 3 7;left set 1 2 8;right set 1 2 9;left set 1 3 _;");
        int[][] due = {{0, 0, 0}, {1, 1, 0}, {2, 1, 0}, {3, 3, 0}, {4, 2, 0}, {5, 1, 2}, {6, 0, 1}};
        CHECK.is("conflicts", x.count(5), due.length);
        for (int i = 0; i < due.length; i++) {
            CHECK.conflict(x, i, due[i][0], due[i][1], due[i][2]);
        }
        TableMerge y = Check.told("column a number;column b number;left rename 0 x;right rename 0 y;left rename 1 z;right rename 1 w;"
                + "left retype 0 digit;right retype 0 even;left retype 1 even;right retype 1 flag;");
        int[][] order = {{1, 0, 0}, {2, 0, 0}, {1, 1, 0}, {2, 1, 0}};
        for (int i = 0; i < 4; i++) {
            CHECK.conflict(y, i, order[i][0], order[i][1], order[i][2]);
        }
    }

    /** "how many CHOICES it has (5)": two, or three of 1, 2, 5; the first that it hasn't is refused. */
    private static void choicesOfEachKind() {
        String[] texts = {"column a number;row 1 1;left drop 0;right set 1 0 5;", "column a number;left rename 0 b;right rename 0 c;",
            "column a number;left retype 0 even;right retype 0 flag;", "left add a flag;right add a digit;",
            "column a number;row 1 1;left delete 1;right set 1 0 5;", "column a number;row 1 1;left set 1 0 4;right set 1 0 5;",
            "column a number;row 1 _;needed 0;"};
        int[] choices = {2, 3, 3, 2, 2, 3, 2};
        for (int kind = 0; kind < 7; kind++) {
            for (int choice = -1; choice <= 4; choice++) {
                TableMerge x = Check.told(texts[kind]);
                CHECK.is("kind", x.conflict(0, 0), kind);
                CHECK.is("choices of " + kind, x.conflict(0, 5), choices[kind]);
                boolean has = choice >= 0 && choice < choices[kind];
                int a = x.conflict(0, 1);
                int b = x.conflict(0, 2);
                CHECK.is("kind " + kind + " by choice " + choice, x.settle(kind, a, b, choice), has ? 0 : -1);
                CHECK.is("choices that there are", x.count(6), has ? 1 : 0);
                CHECK.is("refused", x.count(13), has ? 0 : 1);
                CHECK.is("taken back", x.unsettle(kind, a, b), has ? choice : -1);
            }
        }
    }

    /** "what it is by LEFT, by RIGHT (3, 4: NAME, TYPE, CELL, CAST to the TYPE merged, of 1, 2, 5; NONE of others)". */
    private static void byLeftByRight() {
        TableMerge x = Check.told("column a number;column b number;row 1 1 1;row 2 2 2;needed 1;left rename 0 x;right rename 0 z;left retype 0 digit;right retype 0 even;"
                + "left delete 2;right set 2 0 0;left set 1 0 9;right set 1 0 -998;left set 1 1 _;left add p flag;right add p even;");
        int[][] due = {{1, 23, 25}, {2, 1, 2}, {3, -1, -1}, {4, -1, -1}, {5, 9, -998}, {6, -1, -1}};
        CHECK.is("conflicts", x.count(5), due.length);
        for (int i = 0; i < due.length && i < x.count(5); i++) {
            CHECK.is("kind", x.conflict(i, 0), due[i][0]);
            CHECK.is("by LEFT", x.conflict(i, 3), due[i][1]);
            CHECK.is("by RIGHT", x.conflict(i, 4), due[i][2]);
        }
        TableMerge gone = Check.told("column a number;row 1 1;left drop 0;right set 1 0 5;");
        CHECK.is("a column that is gone, by LEFT", gone.conflict(0, 3), -1);
        CHECK.is("a column that is gone, by RIGHT", gone.conflict(0, 4), -1);
    }

    /** "0 the BASE's .., 1 LEFT's, 2 RIGHT's, 3 both's (..; of a CONFLICT that is SETTLED by the CHOICE), 4 what was made of it by a DEMAND's CHOICE." */
    private static void whoseOfEachKind() {
        TableMerge x = Check.told("column a number;row 1 1;row 2 2;row 3 3;row 4 4;row 5 5;needed 0;left set 2 0 0;right set 3 0 0;left set 4 0 9;right set 4 0 9;left set 5 0 7;right set 5 0 8;left insert 6;");
        int[] due = {0, 1, 2, 3, 0, 0};
        for (int k = 1; k <= 6; k++) {
            CHECK.is("whose " + k, x.whose(k, 0), due[k - 1]);
        }
        for (int choice = 0; choice < 3; choice++) {
            x.settle(5, 5, 0, choice);
            CHECK.is("by the choice", x.whose(5, 0), choice);
            x.undo();
        }
        x.settle(6, 0, 6, 0);
        CHECK.is("made", x.whose(6, 0), 4);
        TableMerge over = Check.told("column a number;row 1 1;row 2 2;unique 0;left set 2 0 1;");
        CHECK.is("LEFT's", over.whose(2, 0), 1);
        over.settle(6, 0, 2, 0);
        CHECK.is("made of LEFT's", over.whose(2, 0), 4);
        over.unsettle(6, 0, 2);
        CHECK.is("LEFT's again", over.whose(2, 0), 1);
    }

    /** Each count, at nothing and at the most. */
    private static void countsOfAll() {
        StringBuilder text = new StringBuilder("column a number;column b number;column c number;column d number;column e number;needed 0;needed 0;needed 0;needed 0;");
        for (int k = 0; k < 12; k++) {
            text.append("row ").append(k + 8).append(" 1 2 3 4 _;");
        }
        TableMerge x = Check.told(text.toString());
        x.add(0, 20, 0);
        x.add(0, 21, 0);
        x.add(1, 22, 0);
        x.add(1, 23, 0);
        for (int k = 0; k < 8; k++) {
            x.delete(0, k + 8);
            x.insert(0, k);
        }
        x.set(0, 0, 6, 0);
        int[] due = {5, 12, 4, 9, 12, 4 * 8, 0, 0, 4 * 4 + 1, 21, 0, 0, 0, 0, 0};
        for (int what = 0; what < due.length; what++) {
            CHECK.is("count " + what, x.count(what), due[what]);
        }
        CHECK.is("columns", x.table(3, 0), 511);
        CHECK.is("rows", x.table(3, 1), 0xff | 15 << 16);
        CHECK.is("the first cell is counted", Check.told("column a number;row 0 0;").count(8), 1);
        CHECK.is("the last cell is counted", Check.told("row 19;right add a flag;right add b flag;right set 19 8 0;").count(8), 1);
        CHECK.is("EMPTY ones aren't", Check.told("column a number;row 0 _;row 19 _;").count(8), 0);
        CHECK.is("nor those of a side", Check.told("column a number;row 0 1;left set 0 0 _;").count(8), 0);
    }
}
