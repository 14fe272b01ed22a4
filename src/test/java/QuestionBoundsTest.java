/** The bounds of promises 23 to 29: one method for each sentence, at both sides of its bound. */
public final class QuestionBoundsTest {
    private static final Check CHECK = new Check();
    private static final int EMPTY = TableMerge.EMPTY;

    public static void main(String[] args) {
        differenceOfEachKind();
        differenceOfCells();
        differenceAtTheMost();
        alongWhileThereAreConflicts();
        alongByEachChoice();
        alongTheLesserOfItAndOne();
        alongTheMost();
        alongWithChoices();
        aloneFewestConflicts();
        aloneMostCells();
        aloneLeastBits();
        aloneFirstTen();
        aloneOfRowsAndColumnsMerged();
        aloneUnderWhateverNumber();
        aloneAsTheBasesCast();
        aloneWithChoices();
        seenAtMostEight();
        seenBounds();
        forgetAll();
        seenStays();
        editedNumbers();
        editedTypes();
        editedOfTheBaseAndRight();
        editedFirst();
        editedAllSeen();
        editedNotMerged();
        yearsOfNone();
        yearsWrap();
        yearsByHand();
        yearsRefuseWhatCantBe();
        questionsDontMix();
        questionsAreAskedAnew();
        asEverBehindIt();
        CHECK.end();
    }

    /** "ROWS that it has more, fewer; COLUMNS so; that it RENAMED; RETYPED." */
    private static void differenceOfEachKind() {
        String told = "column a number;column b number;column c number;row 1 1 1 1;row 2 2 2 2;row 3 3 3 3;";
        for (int side = 0; side < 2; side++) {
            String s = side == 0 ? "left" : "right";
            String[] edits = {"set 1 0 9;", "insert 9;", "delete 3;", "add z flag;", "drop 2;", "rename 1 y;", "retype 1 even;"};
            for (int kind = 0; kind < 7; kind++) {
                TableMerge x = Check.told(told + s + " " + edits[kind]);
                for (int what = 0; what < 7; what++) {
                    CHECK.is("difference " + what + " behind " + edits[kind], x.difference(side, what), what == kind ? 1 : 0);
                    CHECK.is("of the other side", x.difference(1 - side, what), 0);
                }
            }
        }
        TableMerge back = Check.told(told + "left insert 9;left delete 9;left add z flag;left drop 5;left rename 0 z;left rename 0 a;left delete 1;left insert 1;");
        int[] due = {3, 0, 0, 0, 0, 0, 0};
        for (int what = 0; what < 7; what++) {
            CHECK.is("forth and back, " + what, back.difference(0, what), due[what]);
        }
        TableMerge gone = Check.told(told + "right rename 0 z;right retype 0 flag;right set 1 0 0;right drop 0;");
        CHECK.is("a column that is gone is not renamed", gone.difference(1, 5), 0);
        CHECK.is("nor retyped", gone.difference(1, 6), 0);
        CHECK.is("nor are its cells changed", gone.difference(1, 0), 0);
        CHECK.is("it is gone", gone.difference(1, 4), 1);
        TableMerge added = Check.told("left add a flag;left rename 5 b;left retype 5 digit;");
        CHECK.is("an added one is not renamed", added.difference(0, 5), 0);
        CHECK.is("nor retyped", added.difference(0, 6), 0);
    }

    /** "how many CELLS of ROWS and COLUMNS that the BASE has, too, are CHANGED". */
    private static void differenceOfCells() {
        TableMerge x = Check.told("column a number;row 1 1;row 2 2;left insert 9;left set 9 0 5;left add z flag;left set 1 5 1;");
        CHECK.is("of rows and columns that the BASE hasn't", x.difference(0, 0), 0);
        x.set(0, 1, 0, 5);
        CHECK.is("one", x.difference(0, 0), 1);
        x.set(0, 2, 0, EMPTY);
        CHECK.is("two", x.difference(0, 0), 2);
        x.delete(0, 2);
        CHECK.is("one, as its row is gone", x.difference(0, 0), 1);
        x.set(0, 1, 0, 1);
        CHECK.is("none", x.difference(0, 0), 0);
        CHECK.is("what is merged doesn't matter", x.difference(1, 0), 0);
    }

    /** "how many CELLS", "ROWS that it has more, fewer": of 60 CELLS and 12 ROWS at the most. */
    private static void differenceAtTheMost() {
        StringBuilder text = new StringBuilder("column a flag;column b flag;column c flag;column d flag;column e flag;");
        for (int k = 0; k < 12; k++) {
            text.append("row ").append(k).append(" 1 1 1 1 1;");
        }
        TableMerge x = Check.told(text.toString());
        for (int i = 0; i < 60; i++) {
            CHECK.is("cells", x.difference(1, 0), i);
            x.set(1, i / 5, i % 5, 0);
        }
        CHECK.is("all sixty", x.difference(1, 0), 60);
        for (int k = 0; k < 12; k++) {
            x.delete(0, k);
        }
        CHECK.is("all rows fewer", x.difference(0, 2), 12);
        for (int k = 8; k < 20; k++) {
            x.insert(0, k);
        }
        CHECK.is("rows fewer", x.difference(0, 2), 8);
        CHECK.is("rows more", x.difference(0, 1), 8);
    }

    private static void along(TableMerge x, int choice, int settled, int left, int rows) {
        CHECK.is("along " + choice + ": settled", x.along(choice, 0), settled);
        CHECK.is("along " + choice + ": left", x.along(choice, 1), left);
        CHECK.is("along " + choice + ": rows", x.along(choice, 2), rows);
    }

    /** "as long as there are CONFLICTS, the first one is SETTLED". */
    private static void alongWhileThereAreConflicts() {
        TableMerge none = Check.told("column a number;row 1 1;row 2 2;left set 1 0 3;");
        for (int choice = 0; choice < 3; choice++) {
            along(none, choice, 0, 0, 2);
            along(new TableMerge(), choice, 0, 0, 0);
        }
        TableMerge one = Check.told("column a number;row 1 1;left set 1 0 5;right set 1 0 6;");
        for (int choice = 0; choice < 3; choice++) {
            along(one, choice, 1, 0, 1);
        }
        TableMerge more = Check.told("column a number;row 1 1;row 2 5;unique 0;needed 0;left set 1 0 5;right set 1 0 6;");
        along(more, 0, 1, 0, 2);
        along(more, 1, 2, 0, 1);
        along(more, 2, 1, 0, 2);
        TableMerge chain = Check.told("column a number;row 1 5;row 2 5;unique 0;needed 0;needed 0;");
        along(chain, 0, 2, 0, 2);
        along(chain, 1, 1, 0, 1);
    }

    /** "SETTLED by a told CHOICE (0 to 2)": 0 the BASE's, 1 LEFT's, 2 RIGHT's. */
    private static void alongByEachChoice() {
        TableMerge x = Check.told("column a number;column b number;row 1 1 1;row 2 2 2;row 3 3 3;below 0 1;left set 1 0 9;left set 1 1 8;right set 1 0 4;right set 1 1 5;");
        along(x, 0, 3 + 2, 0, 3);
        along(x, 1, 3 + 2, 0, 0);
        along(x, 2, 2 + 2, 0, 1);
    }

    /** "of those that have two the lesser of it and 1": 2 is 1 for them. */
    private static void alongTheLesserOfItAndOne() {
        TableMerge x = Check.told("column a number;row 1 1;row 2 2;row 3 _;needed 0;left delete 1;right set 1 0 5;left delete 2;right set 2 0 5;");
        along(x, 0, 3, 0, 3);
        along(x, 1, 3, 0, 0);
        along(x, 2, 3, 0, 0);
    }

    /** "up to 200 times" is more than any tables need: as many as there can be are settled. */
    private static void alongTheMost() {
        StringBuilder text = new StringBuilder("column a number;column b number;column c number;column d number;column e number;needed 0;needed 1;needed 2;needed 3;");
        for (int k = 0; k < 12; k++) {
            text.append("row ").append(k).append(" _ _ _ _ _;");
        }
        TableMerge x = Check.told(text.toString());
        CHECK.is("LEFT adds", x.add(0, 20, 0) + x.add(0, 21, 0), 11);
        CHECK.is("RIGHT adds", x.add(1, 20, 0) + x.add(1, 21, 0), 15);
        int[] left = {0, 1, 2, 3, 4, 5, 6};
        int[] right = {0, 1, 2, 3, 4, 7, 8};
        for (int k = 0; k < 12; k++) {
            for (int c = 0; c < 7; c++) {
                x.set(0, k, left[c], 1);
                x.set(1, k, right[c], 2);
            }
        }
        CHECK.is("conflicts", x.count(5), 84 + 48);
        along(x, 0, 84 + 48, 0, 12);
        along(x, 1, 84, 0, 12);
        along(x, 2, 84, 0, 12);
    }

    /** "how many were": by a CHOICE that is there already none is. */
    private static void alongWithChoices() {
        TableMerge x = Check.told("column a number;row 1 1;row 2 2;left set 1 0 5;right set 1 0 6;left set 2 0 5;right set 2 0 6;");
        along(x, 1, 2, 0, 2);
        x.settle(5, 1, 0, 0);
        along(x, 1, 1, 0, 2);
        x.settle(5, 2, 0, 0);
        along(x, 1, 0, 0, 2);
        x.unsettle(5, 1, 0);
        along(x, 1, 1, 0, 2);
        CHECK.is("choices as ever", x.count(6), 1);
    }

    private static void alone(String label, TableMerge x, int side, int conflicts, int cells, int bits) {
        CHECK.is(label + ": conflicts", x.alone(side, 0), conflicts);
        CHECK.is(label + ": cells", x.alone(side, 1), cells);
        CHECK.is(label + ": which", x.alone(side, 2), bits);
    }

    /** "first the fewest CONFLICTS". */
    private static void aloneFewestConflicts() {
        TableMerge x = Check.told("column a number;row 1 1;row 2 2;row 3 3;left set 1 0 7;left set 2 0 8;left set 3 0 9;right set 1 0 17;right set 2 0 18;right set 3 0 19;");
        alone("none is as it is", x, 0, 0, 0, 0);
        alone("none is as it is", x, 1, 0, 0, 0);
        x.set(1, 2, 0, 8);
        alone("the one that is alike", x, 0, 0, 1, 2);
        TableMerge needed = Check.told("column a number;row 1 _;row 2 _;needed 0;left set 1 0 5;");
        alone("by it there are fewer", needed, 0, 1, 1, 1);
        alone("no cell is changed", needed, 1, 1, 0, 0);
        alone("nothing", new TableMerge(), 0, 0, 0, 0);
    }

    /** "then the most CELLS". */
    private static void aloneMostCells() {
        TableMerge x = Check.told("column a number;row 1 1;row 2 2;row 3 3;row 4 4;unique 0;left set 1 0 9;left set 2 0 9;left set 3 0 8;left set 4 0 8;");
        alone("one of each two", x, 0, 0, 2, 5);
        TableMerge three = Check.told("column a number;row 1 1;row 2 2;row 3 3;unique 0;left set 1 0 2;left set 2 0 3;left set 3 0 1;");
        alone("all three go round", three, 0, 0, 3, 7);
    }

    /** "then the least bits". */
    private static void aloneLeastBits() {
        TableMerge x = Check.told("column a number;row 1 1;row 2 2;row 3 3;unique 0;left set 1 0 9;left set 2 0 9;left set 3 0 9;");
        alone("the first of three", x, 0, 0, 1, 1);
        x.set(0, 1, 0, 2);
        alone("2 is the second one's, as it must not be changed then", x, 0, 0, 2, 3);
    }

    /** "by KEYS, then its COLUMNS' numbers, the first 10". */
    private static void aloneFirstTen() {
        StringBuilder text = new StringBuilder("column a number;column b number;");
        for (int k = 0; k < 6; k++) {
            text.append("row ").append(k).append(" 0 0;");
        }
        for (int cells = 9; cells <= 12; cells++) {
            TableMerge x = Check.told(text.toString());
            for (int i = 0; i < cells; i++) {
                x.set(0, i / 2, i % 2, 5);
            }
            alone(cells + " cells", x, 0, 0, Math.min(10, cells), (1 << Math.min(10, cells)) - 1);
            x.set(1, 4, 1, 6);
            boolean tenth = cells >= 10;
            alone(cells + " cells, the tenth one meets", x, 0, 0, 9, (1 << 9) - 1);
            x.set(1, 5, 0, 6);
            alone(cells + " cells, the eleventh one meets", x, 0, cells >= 11 ? 1 : 0, 9, 511);
            CHECK.is("conflicts", x.count(5), (tenth ? 1 : 0) + (cells >= 11 ? 1 : 0));
        }
        TableMerge order = Check.told(text + "left set 1 0 5;left set 0 1 5;left set 3 0 5;right set 0 1 6;");
        alone("by keys, then columns", order, 0, 0, 2, 6);
    }

    /** "of its ROWS and COLUMNS that are merged". */
    private static void aloneOfRowsAndColumnsMerged() {
        TableMerge x = Check.told("column a number;column b number;row 1 1 1;row 2 2 2;row 3 3 3;left drop 0;left delete 2;right set 1 0 5;right set 2 1 6;right set 3 1 7;");
        CHECK.is("conflicts", x.count(5), 2);
        alone("both are kept", x, 1, 0, 1, 4);
        x.settle(0, 0, 0, 1);
        alone("without the column", x, 1, 0, 1, 2);
        x.settle(4, 2, 0, 1);
        alone("without the row", x, 1, 0, 1, 1);
        x.unsettle(0, 0, 0);
        alone("with the column again", x, 1, 0, 1, 2);
        TableMerge demand = Check.told("column a number;row 1 5;row 2 2;row 3 3;unique 0;left set 2 0 5;left set 3 0 6;");
        demand.settle(6, 0, 2, 1);
        alone("a row that a demand's choice took", demand, 0, 0, 1, 1);
    }

    /** "under whatever number". */
    private static void aloneUnderWhateverNumber() {
        TableMerge x = Check.told("row 1;left add y flag;left add z digit;right add z digit;right set 1 7 3;left set 1 6 4;");
        alone("RIGHT's 7 is merged as 6", x, 1, 0, 0, 0);
        x.set(1, 1, 7, 4);
        alone("alike", x, 1, 0, 1, 1);
        for (int side = 0; side < 2; side++) {
            String own = side == 0 ? "left" : "right";
            int number = side == 0 ? 5 : 7;
            TableMerge added = Check.told("column a number;row 0 1;row 19 2;" + own + " add y flag;" + own + " add z digit;"
                    + own + " set 0 " + number + " 1;" + own + " set 0 0 9;" + own + " set 19 " + (number + 1) + " 0;");
            alone("an added column's cells", added, side, 0, 3, 7);
            alone("the other side has none", added, 1 - side, 0, 0, 0);
            added.set(1 - side, 0, 0, 8);
            alone("the first one meets", added, side, 0, 2, 6);
            added.drop(side, number);
            alone("without the dropped one", added, side, 0, 1, 2);
        }
        TableMerge gone = Check.told("column a number;row 1 1;right add x flag;right add z digit;left add y flag;left add z even;right set 1 7 1;right set 1 8 3;");
        one(gone);
        gone.settle(3, 8, 0, 1);
        alone("RIGHT's 8 is gone", gone, 1, 0, 1, 1);
        TableMerge twin = Check.told("column z number;row 1 1;left add y digit;right add y digit;right set 1 7 3;right rename 0 x;left rename 5 x;");
        CHECK.is("x of LEFT, y of RIGHT", twin.table(3, 0), 1 | 1 << 5 | 1 << 7);
        alone("under its own number", twin, 1, 1, 1, 1);
    }

    private static void one(TableMerge x) {
        CHECK.is("conflicts", x.count(5), 1);
    }

    /** "all others of these as the BASE's, CAST". */
    private static void aloneAsTheBasesCast() {
        TableMerge x = Check.told("column a number;row 1 15;row 2 9;unique 0;left retype 0 digit;left set 1 0 9;");
        alone("15 as a digit is 5, and no 9", x, 0, 0, 0, 0);
        TableMerge y = Check.told("column a number;row 1 19;row 2 9;unique 0;left retype 0 digit;left set 1 0 4;");
        alone("19 as a digit is 9: it is better set", y, 0, 0, 1, 1);
        TableMerge z = Check.told("column a number;column b number;row 1 1 1;left drop 0;right set 1 0 5;right rename 0 z;");
        alone("renamed, the column is a conflict all the same", z, 1, 1, 1, 1);
    }

    /** "CHOICES as they are". */
    private static void aloneWithChoices() {
        TableMerge x = Check.told("column a number;row 1 1;row 2 2;left set 1 0 5;right set 1 0 6;left set 2 0 7;right set 2 0 8;");
        alone("without", x, 0, 0, 0, 0);
        x.settle(5, 2, 0, 2);
        alone("one is settled", x, 0, 0, 1, 2);
        x.settle(5, 1, 0, 0);
        alone("both are", x, 0, 0, 2, 3);
        CHECK.is("choices as ever", x.count(6), 2);
        CHECK.is("none waits", x.count(7), 0);
    }

    /** "SEEN (at most 8)"; "NONE (STATUS 2): there are 8". */
    private static void seenAtMostEight() {
        TableMerge x = Check.told("column a number;row 1 1;");
        for (int i = 1; i <= 8; i++) {
            CHECK.is("seen", x.see(1, 0, 1), i);
            CHECK.is("seen", x.count(10), i);
        }
        for (int i = 1; i <= 3; i++) {
            CHECK.is("no more", x.see(1, 0, 2), -1);
            CHECK.is("seen", x.count(10), 8);
            CHECK.is("not seen", x.count(14), i);
        }
        CHECK.is("so without still", x.edited(2), 1);
        x.forget();
        CHECK.is("one anew", x.see(1, 0, 2), 1);
        CHECK.is("not so", x.edited(2), 0);
    }

    /** "KEY not 0 to 19, COLUMN not 0 to 8, number not -999 to 999 nor EMPTY". */
    private static void seenBounds() {
        for (int key = -2; key <= 21; key++) {
            TableMerge x = new TableMerge();
            boolean can = key >= 0 && key <= 19;
            CHECK.is("key " + key, x.see(key, 0, 0), can ? 1 : -1);
            CHECK.is("not seen", x.count(14), can ? 0 : 1);
        }
        for (int column = -2; column <= 11; column++) {
            TableMerge x = new TableMerge();
            CHECK.is("column " + column, x.see(0, column, 0), column >= 0 && column <= 8 ? 1 : -1);
        }
        for (int number : new int[] {-10000, -9999, -1000, -999, 0, 999, 1000, 9998, 9999, 10000, Integer.MIN_VALUE, Integer.MAX_VALUE}) {
            TableMerge x = new TableMerge();
            boolean can = number >= -999 && number <= 999 || number == EMPTY;
            CHECK.is("number " + number, x.see(19, 8, number), can ? 1 : -1);
            CHECK.is("not seen", x.count(14), can ? 0 : 1);
            CHECK.is("no act refused", x.count(13), 0);
        }
    }

    /** "All that is SEEN is forgotten." */
    private static void forgetAll() {
        TableMerge x = Check.told("column a number;row 1 1;");
        x.forget();
        CHECK.is("none", x.count(10), 0);
        x.see(1, 0, 5);
        x.see(2, 0, 5);
        CHECK.is("no way", x.edited(0), 0);
        x.forget();
        CHECK.is("none", x.count(10), 0);
        CHECK.is("so without", x.edited(2), 1);
        CHECK.is("by all", x.edited(0), 18);
        CHECK.is("no act", x.count(9) + x.count(13) + x.count(14), 0);
    }

    /** SEEN by KEY and COLUMN: no ACT changes it, flipping, committing and undoing neither. */
    private static void seenStays() {
        TableMerge x = Check.told("column a number;column b number;row 1 1 2;left drop 0;left add z flag;left set 1 5 1;");
        x.see(1, 5, 1);
        CHECK.is("so", x.edited(2), 1);
        x.flip();
        CHECK.is("seen", x.count(10), 1);
        CHECK.is("the column is 7 now: not so", x.edited(2), 0);
        x.undo();
        CHECK.is("so again", x.edited(2), 1);
        x.commit();
        CHECK.is("seen", x.count(10), 1);
        CHECK.is("the column is 1 now: not so", x.edited(2), 0);
        x.see(1, 1, 1);
        x.undo();
        CHECK.is("seen behind the act that was undone", x.count(10), 2);
        x.see(1, 1, 1000);
        CHECK.is("refused, seen as it was", x.count(10), 2);
    }

    /** "numbers that their TYPES there hold (-9 to 9) .. (another one than it has ..)". */
    private static void editedNumbers() {
        for (int number = -12; number <= 12; number++) {
            TableMerge x = Check.told("column a number;row 1 50;");
            x.see(1, 0, number);
            boolean can = number >= -9 && number <= 9;
            CHECK.is("ways to " + number, x.edited(0), can ? 1 : 0);
            CHECK.is("first to " + number, x.edited(1), can ? 1050 + number : -1);
            CHECK.is("without " + number, x.edited(2), 0);
        }
        for (int has : new int[] {-10, -9, 0, 9, 10}) {
            TableMerge x = Check.told("column a number;row 1 " + has + ";");
            CHECK.is("another one than " + has, x.edited(0), has < -9 || has > 9 ? 19 : 18);
            CHECK.is("the first", x.edited(1), has == -9 ? 1042 : 1041);
        }
        TableMerge empty = Check.told("column a number;row 1 5;");
        empty.see(1, 0, EMPTY);
        CHECK.is("not to EMPTY", empty.edited(0), 0);
        TableMerge isEmpty = Check.told("column a number;row 1 _;");
        CHECK.is("from EMPTY", isEmpty.edited(0), 19);
    }

    /** "numbers that their TYPES there hold": RIGHT's TYPES. */
    private static void editedTypes() {
        String[] types = {"number", "digit", "even", "flag"};
        int[] ways = {19, 10, 9, 2};
        int[] first = {1041, 1050, 1042, 1050};
        for (int t = 0; t < 4; t++) {
            TableMerge x = Check.told("column a " + types[t] + ";row 1 _;");
            CHECK.is("ways of " + types[t], x.edited(0), ways[t]);
            CHECK.is("first of " + types[t], x.edited(1), first[t]);
            TableMerge y = Check.told("column a " + types[(t + 1) % 4] + ";row 1 _;right retype 0 " + types[t] + ";");
            CHECK.is("ways of RIGHT's " + types[t], y.edited(0), ways[t]);
            TableMerge z = Check.told("column a " + types[t] + ";row 1 _;left retype 0 " + types[(t + 1) % 4] + ";");
            CHECK.is("LEFT's is not asked for, of " + types[t], z.edited(0), ways[t]);
        }
    }

    /** "KEYS and COLUMNS of the BASE .. of ROWS and COLUMNS that RIGHT has". */
    private static void editedOfTheBaseAndRight() {
        String told = "column a flag;column b flag;row 1 0 0;row 2 0 0;";
        CHECK.is("four", Check.told(told).edited(0), 4);
        CHECK.is("RIGHT's row is gone", Check.told(told + "right delete 1;").edited(0), 2);
        CHECK.is("RIGHT's column is gone", Check.told(told + "right drop 0;").edited(0), 2);
        CHECK.is("both", Check.told(told + "right drop 0;right delete 1;").edited(1), 2151);
        CHECK.is("RIGHT's new row", Check.told(told + "right insert 3;").edited(0), 4);
        CHECK.is("RIGHT's new column", Check.told(told + "right add z flag;").edited(0), 4);
        CHECK.is("LEFT's are gone", Check.told(told + "left delete 1;left drop 0;").edited(0), 4);
        CHECK.is("gone and there again", Check.told(told + "right delete 1;right insert 1;").edited(0), 6);
        CHECK.is("none", new TableMerge().edited(0), 0);
        CHECK.is("none, the first", new TableMerge().edited(1), -1);
        CHECK.is("none, without", new TableMerge().edited(2), 1);
    }

    /** "the first (1000 by the KEY, 100 by the COLUMN, and the number and 50)". */
    private static void editedFirst() {
        TableMerge x = Check.told("column a number;column b number;column c number;column d number;column e number;row 0 50 50 50 50 50;row 19 50 50 50 50 50;");
        int[] keys = {0, 19};
        for (int key : keys) {
            for (int c = 0; c < 5; c++) {
                for (int number : new int[] {-9, 0, 9}) {
                    x.see(key, c, number);
                    CHECK.is("one way", x.edited(0), 1);
                    CHECK.is("the first", x.edited(1), 1000 * key + 100 * c + number + 50);
                    x.forget();
                }
            }
        }
        CHECK.is("of all", x.edited(1), 41);
        CHECK.is("all", x.edited(0), 190);
        x.see(0, 0, 50);
        CHECK.is("the first one stays: the next column", x.edited(1), 141);
    }

    /** "by one of which all SEEN would be so"; "whether it is so without (1)". */
    private static void editedAllSeen() {
        TableMerge x = Check.told("column a number;column b number;row 1 1 2;left set 1 1 7;");
        x.see(1, 0, 3);
        CHECK.is("one", x.edited(0), 1);
        x.see(1, 1, 7);
        CHECK.is("with what is so", x.edited(0), 1);
        CHECK.is("not without", x.edited(2), 0);
        x.see(1, 1, 8);
        CHECK.is("both can't be so", x.edited(0), 0);
        CHECK.is("the first: none", x.edited(1), -1);
        x.forget();
        x.see(1, 0, 1);
        x.see(1, 1, 7);
        CHECK.is("so without", x.edited(2), 1);
        CHECK.is("by RIGHT's 7 alone", x.edited(0), 1);
        CHECK.is("alike with LEFT's", x.edited(1), 1157);
        x.forget();
        x.see(1, 0, 3);
        x.see(1, 1, 2);
        CHECK.is("two edits would be needed", x.edited(0), 0);
    }

    /** "(A CELL that isn't merged is not so.)" */
    private static void editedNotMerged() {
        TableMerge x = Check.told("column a number;row 1 1;row 2 2;left delete 2;");
        x.see(2, 0, 2);
        CHECK.is("gone", x.edited(2), 0);
        CHECK.is("by RIGHT's it would be kept, but another", x.edited(0), 0);
        x.forget();
        x.see(2, 0, 5);
        CHECK.is("kept by an edit", x.edited(0), 1);
        CHECK.is("which", x.edited(1), 2055);
        x.forget();
        x.see(3, 0, EMPTY);
        CHECK.is("never there, EMPTY", x.edited(0) + x.edited(2), 0);
        x.forget();
        x.see(1, 8, EMPTY);
        CHECK.is("no such column, EMPTY", x.edited(0) + x.edited(2), 0);
    }

    /** "n (0 to 60) times". */
    private static void yearsOfNone() {
        TableMerge x = Check.told("column a number;row 1 1;row 2 2;left set 1 0 5;right set 1 0 6;");
        for (int seed : new int[] {0, 1, -1, Integer.MAX_VALUE, Integer.MIN_VALUE}) {
            CHECK.is("none done", x.years(seed, 0, 0), 0);
            CHECK.is("conflicts as they are", x.years(seed, 0, 1), 1);
            CHECK.is("rows as they are", x.years(seed, 0, 2), 2);
            int done = x.years(seed, 60, 0);
            CHECK.yes("at most sixty", done >= 0 && done <= 60);
            CHECK.yes("one more year is one more at most", x.years(seed, 1, 0) <= 1);
        }
    }

    private static int seed;

    private static int draw(int n) {
        long next = (long) seed * 1103515245L + 12345L;
        seed = (int) next;
        int bits = 0;
        for (int bit = 16; bit <= 30; bit++) {
            bits |= (int) (next >> bit & 1) << bit - 16;
        }
        return bits % n;
    }

    private static boolean year(TableMerge hand) {
        int side = draw(2);
        switch (draw(4)) {
            case 0: {
                int key = draw(20);
                int column = draw(9);
                return hand.set(side, key, column, draw(10));
            }
            case 1:
                return hand.insert(side, draw(20));
            case 2:
                return hand.delete(side, draw(20));
            default: {
                int column = draw(9);
                return hand.retype(side, column, draw(4));
            }
        }
    }

    private static final String FULL = "column a number;column b digit;column c even;column d flag;column e number;"
            + "row 0 1 1 2 1 1;row 2 1 1 2 1 1;row 4 1 1 2 1 1;row 6 1 1 2 1 1;row 8 1 1 2 1 1;row 10 1 1 2 1 1;row 12 1 1 2 1 1;row 14 1 1 2 1 1;row 16 1 1 2 1 1;row 18 1 1 2 1 1;"
            + "needed 0;below 1 4;left add x number;left add y flag;right add x number;right add z even;";

    /** "A seed becomes itself times 1103515245 and 12345 (an int that wraps); a DRAW of n is its bits 16 to 30 MOD n then." */
    private static void yearsWrap() {
        for (int first : new int[] {0, 1, -1, 2, 65535, 65536, 1 << 30, 1 << 31, Integer.MAX_VALUE, Integer.MIN_VALUE + 1, 1103515245, -12345}) {
            yearsAs(first, 60);
            yearsAs(first, 59);
            yearsAs(first, 1);
            yearsAs(first, 2);
        }
    }

    private static void yearsAs(int first, int n) {
        TableMerge x = Check.told(FULL);
        TableMerge hand = Check.told(FULL);
        seed = first;
        int done = 0;
        for (int i = 0; i < n; i++) {
            done += year(hand) ? 1 : 0;
        }
        CHECK.is("done, seed " + first + ", " + n, x.years(first, n, 0), done);
        CHECK.is("conflicts, seed " + first + ", " + n, x.years(first, n, 1), hand.count(5));
        CHECK.is("rows, seed " + first + ", " + n, x.years(first, n, 2), hand.count(4));
        CHECK.is("done by hand is an act", hand.count(9), Math.min(30, done));
        CHECK.is("what can't be done is refused by hand", hand.count(13), n - done);
    }

    /** "if it can be done: how many were; CONFLICTS then; ROWS merged then", as by the same EDITS by hand. */
    private static void yearsByHand() {
        for (int first = 100; first < 200; first++) {
            yearsAs(first * 7919, first % 61);
        }
    }

    /** "if it can be done": twelve rows at most, and what is as it was already can't be. */
    private static void yearsRefuseWhatCantBe() {
        int sum = 0;
        for (int first = 0; first < 60; first++) {
            TableMerge x = new TableMerge();
            int rows = x.years(first, 60, 2);
            CHECK.yes("at most twenty rows", rows >= 0 && rows <= 20);
            sum += x.years(first, 60, 0);
        }
        CHECK.yes("some are done, some aren't", sum > 0 && sum < 60 * 60);
    }

    private static int ask(TableMerge x, int question) {
        int what = question % 3;
        switch (question / 3) {
            case 0: return x.along(0, what);
            case 1: return x.along(1, what);
            case 2: return x.along(2, what);
            case 3: return x.alone(0, what);
            case 4: return x.alone(1, what);
            case 5: return x.edited(what);
            default: return x.years(3, 20, what);
        }
    }

    private static final String MANY = "column a number;column b digit;row 1 1 2;row 2 3 4;row 3 5 6;row 4 _ 7;unique 0;needed 0;left set 1 0 5;right set 1 0 6;"
            + "left delete 2;right set 2 1 9;right add z flag;left set 3 1 8;right set 3 1 9;left set 4 1 2;right set 3 0 1;";

    /** One question behind another, in each order, is answered as if it were the only one. */
    private static void questionsDontMix() {
        int[] due = new int[21];
        for (int q = 0; q < 21; q++) {
            due[q] = ask(Check.told(MANY), q);
        }
        for (int first = 0; first < 21; first++) {
            TableMerge x = Check.told(MANY);
            for (int step = 0; step < 21; step++) {
                int q = (first + step * 5) % 21;
                CHECK.is("question " + q + " behind " + step + " others", ask(x, q), due[q]);
            }
            TableMerge y = Check.told(MANY);
            for (int other = 0; other < 21; other++) {
                ask(y, first);
                CHECK.is("question " + other + " behind " + first, ask(y, other), due[other]);
            }
        }
        for (int i = 0; i < 7; i++) {
            for (int j = 0; j < i; j++) {
                TableMerge x = Check.told(MANY);
                TableMerge y = Check.told(MANY);
                x.set(0, 1, 0, 7);
                y.set(0, 1, 0, 7);
                ask(x, 3 * j);
                int ahead = ask(x, 3 * i + 1);
                CHECK.is("question " + i + " behind " + j, ahead, ask(y, 3 * i + 1));
            }
        }
    }

    /** What was asked ahead of a change is asked anew behind it. */
    private static void questionsAreAskedAnew() {
        for (int q = 0; q < 21; q++) {
            TableMerge x = Check.told(MANY);
            TableMerge y = Check.told(MANY);
            for (int change = 0; change < 9; change++) {
                ask(x, q);
                change(x, change);
                change(y, change);
                CHECK.is("question " + q + " behind change " + change, ask(x, q), ask(again(change), q));
            }
            CHECK.is("question " + q + " in the end", ask(x, q), ask(y, q));
        }
    }

    private static TableMerge again(int last) {
        TableMerge z = Check.told(MANY);
        for (int change = 0; change <= last; change++) {
            change(z, change);
        }
        return z;
    }

    private static void change(TableMerge x, int change) {
        switch (change) {
            case 0: x.set(0, 1, 0, 6); break;
            case 1: x.image(); x.see(1, 0, 3); break;
            case 2: x.settle(4, 2, 0, 0); break;
            case 3: x.flip(); break;
            case 4: x.undo(); break;
            case 5: x.forget(); break;
            case 6: x.unsettle(4, 2, 0); break;
            case 7: x.delete(1, 4); break;
            default: x.restore(); break;
        }
    }

    /** "(All as ever behind it.)": of years, and of every other question. */
    private static void asEverBehindIt() {
        TableMerge x = Check.told("column a number;column b digit;row 1 1 2;row 2 3 4;unique 0;left set 1 0 5;right set 1 0 6;left delete 2;right set 2 1 9;right add z flag;");
        x.settle(5, 1, 0, 2);
        x.insert(0, 7);
        x.see(1, 0, 6);
        String ahead = Everything.of(x);
        for (int seed = 0; seed < 5; seed++) {
            x.years(seed, 60, seed % 3);
        }
        CHECK.yes("all as ever", Everything.of(x).equals(ahead));
        CHECK.is("the act is undone", x.undo(), 1);
        CHECK.is("rows", x.table(0, 1), 2);
    }
}
