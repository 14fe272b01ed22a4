/** The bounds of promises 11 to 17 and of the EDITS: one method for each sentence, at both sides of its bound. */
public final class EditBoundsTest {
    private static final Check CHECK = new Check();
    private static final int EMPTY = TableMerge.EMPTY;
    private static final String FOUR = "column a number;column b digit;column c even;column d flag;row 0 _ _ _ _;row 19 5 5 6 1;";

    public static void main(String[] args) {
        numbersOfATypeAreHeld();
        numbersSet();
        anotherOne();
        rowsAndColumnsThatAreThere();
        keysInserted();
        fewerThanTwelve();
        allCellsEmpty();
        goneWhenDeleted();
        namesOfAColumn();
        nameThatNoneThereHas();
        anotherType();
        allCellsAreCast();
        castsOfAllNumbers();
        nextOfTwoNumbers();
        addedCellsEmpty();
        numberNotHadAgain();
        dropped();
        sidesAreApart();
        everyEditIsAnAct();
        CHECK.end();
    }

    private static boolean holds(int type, int number) {
        if (number == EMPTY) {
            return true;
        }
        switch (type) {
            case 0: return number >= -999 && number <= 999;
            case 1: return number >= 0 && number <= 9;
            case 2: return number >= -998 && number <= 998 && number % 2 == 0;
            default: return number == 0 || number == 1;
        }
    }

    /** "a TYPE: 0 NUMBER (-999 to 999), 1 DIGIT (0 to 9), 2 EVEN (even, -998 to 998), 3 FLAG (0, 1)". */
    private static void numbersOfATypeAreHeld() {
        int[] tried = {-1000, -999, -998, -997, -10, -9, -2, -1, 0, 1, 2, 3, 8, 9, 10, 11, 997, 998, 999, 1000, 1001, 9998, 9999, 10000,
            -9999, -10000, 32768, 65536, Integer.MAX_VALUE, Integer.MIN_VALUE, Integer.MIN_VALUE + 1};
        for (int side = 0; side < 2; side++) {
            for (int type = 0; type < 4; type++) {
                for (int number : tried) {
                    TableMerge x = Check.told(FOUR);
                    int was = x.cell(side, 19, type);
                    boolean can = holds(type, number) && number != was;
                    CHECK.is("set of type " + type + " to " + number, x.set(side, 19, type, number) ? 1 : 0, can ? 1 : 0);
                    CHECK.is("cell of type " + type + " then", x.cell(side, 19, type), can ? number : was);
                    CHECK.is("refused", x.count(13), can ? 0 : 1);
                    CHECK.is("acts", x.count(9), can ? 1 : 0);
                }
            }
        }
    }

    /** "NUMBER (-999 to 999)": what is refused leaves the number that was set last. */
    private static void numbersSet() {
        TableMerge x = Check.told(FOUR);
        CHECK.yes("-999", x.set(0, 0, 0, -999));
        CHECK.no("-1000", x.set(0, 0, 0, -1000));
        CHECK.is("the last that could be done", x.cell(0, 0, 0), -999);
        CHECK.yes("999", x.set(0, 0, 0, 999));
        CHECK.no("1000", x.set(0, 0, 0, 1000));
        CHECK.is("the last that could be done", x.cell(0, 0, 0), 999);
        CHECK.is("merged", x.cell(3, 0, 0), 999);
    }

    /** "is another one"; "What is as it was already .. can't be done". */
    private static void anotherOne() {
        TableMerge x = Check.told(FOUR);
        CHECK.no("the same number", x.set(0, 19, 0, 5));
        CHECK.no("EMPTY as it was", x.set(0, 0, 0, EMPTY));
        CHECK.yes("EMPTY", x.set(0, 19, 0, EMPTY));
        CHECK.no("EMPTY already", x.set(0, 19, 0, EMPTY));
        CHECK.yes("back", x.set(0, 19, 0, 5));
        CHECK.is("as the BASE: not changed", x.difference(0, 0), 0);
        CHECK.yes("0 is not EMPTY", x.set(0, 0, 3, 0));
        CHECK.no("0 already", x.set(0, 0, 3, 0));
    }

    /** "the CELL of a ROW and COLUMN that are there". */
    private static void rowsAndColumnsThatAreThere() {
        for (int key = -2; key <= 66; key++) {
            TableMerge x = Check.told(FOUR);
            CHECK.is("set of key " + key, x.set(1, key, 0, 7) ? 1 : 0, key == 0 || key == 19 ? 1 : 0);
            CHECK.is("delete of key " + key, x.delete(1, key) ? 1 : 0, key == 0 || key == 19 ? 1 : 0);
        }
        for (int column = -2; column <= 66; column++) {
            TableMerge x = Check.told(FOUR + "left add y flag;right add z flag;");
            boolean right = column >= 0 && column < 4 || column == 7;
            boolean left = column >= 0 && column < 4 || column == 5;
            CHECK.is("RIGHT's set of column " + column, x.set(1, 0, column, 0) ? 1 : 0, right ? 1 : 0);
            CHECK.is("LEFT's set of column " + column, x.set(0, 0, column, 0) ? 1 : 0, left ? 1 : 0);
            CHECK.is("RIGHT's drop of column " + column, x.drop(1, column) ? 1 : 0, right ? 1 : 0);
            CHECK.is("LEFT's drop of column " + column, x.drop(0, column) ? 1 : 0, left ? 1 : 0);
        }
    }

    /** "A ROW has a KEY (0 to 19)"; "a ROW of a KEY that isn't there". */
    private static void keysInserted() {
        for (int side = 0; side < 2; side++) {
            for (int key = -2; key <= 66; key++) {
                TableMerge x = Check.told("row 3;");
                boolean can = key >= 0 && key <= 19 && key != 3;
                CHECK.is("insert " + key, x.insert(side, key) ? 1 : 0, can ? 1 : 0);
                CHECK.is("rows then", x.table(side, 1), can ? 8 | 1 << key : 8);
                CHECK.is("merged rows then", x.table(3, 1), can ? 8 | 1 << key : 8);
                CHECK.is("rows of the other one", x.table(1 - side, 1), 8);
                CHECK.is("rows of the BASE", x.table(2, 1), 8);
            }
        }
    }

    /** "fewer than 12": in each side by itself. */
    private static void fewerThanTwelve() {
        for (int side = 0; side < 2; side++) {
            TableMerge x = new TableMerge();
            for (int k = 0; k < 12; k++) {
                CHECK.yes("row " + (k + 1), x.insert(side, k));
            }
            for (int k = 12; k < 20; k++) {
                CHECK.no("a 13th row", x.insert(side, k));
            }
            CHECK.is("twelve", x.table(side, 1), 0xfff);
            CHECK.yes("one gone", x.delete(side, 5));
            CHECK.yes("one more", x.insert(side, 19));
            CHECK.no("and no more", x.insert(side, 5));
            CHECK.yes("the other one has room", x.insert(1 - side, 18));
            CHECK.is("merged rows may be more", x.count(4), 13);
        }
    }

    /** "all CELLS EMPTY", of a ROW that was there before, too. */
    private static void allCellsEmpty() {
        TableMerge x = Check.told(FOUR + "left add z even;left set 19 5 8;");
        CHECK.yes("gone", x.delete(0, 19));
        CHECK.yes("there again", x.insert(0, 19));
        CHECK.yes("a new one", x.insert(0, 7));
        for (int c = 0; c < 6; c++) {
            if (c != 4) {
                CHECK.is("cell of " + c, x.cell(0, 19, c), EMPTY);
                CHECK.is("new cell of " + c, x.cell(0, 7, c), EMPTY);
            }
        }
        CHECK.is("the BASE's stays", x.cell(2, 19, 0), 5);
        CHECK.is("changed against the BASE", x.difference(0, 0), 4);
    }

    /** "DELETED: one that is there is gone." */
    private static void goneWhenDeleted() {
        TableMerge x = Check.told(FOUR);
        CHECK.no("not there", x.delete(1, 1));
        CHECK.yes("there", x.delete(1, 0));
        CHECK.no("gone", x.delete(1, 0));
        CHECK.is("rows", x.table(1, 1), 1 << 19);
        CHECK.yes("the last one", x.delete(1, 19));
        CHECK.is("none", x.table(1, 1), 0);
        CHECK.no("none to delete", x.delete(1, 19));
        CHECK.noSuch("its cell", () -> x.cell(1, 19, 0));
    }

    /** "a NAME (0 'a' to 25 'z')". */
    private static void namesOfAColumn() {
        for (int side = 0; side < 2; side++) {
            for (int name = -2; name <= 28; name++) {
                TableMerge x = Check.told("column m number;");
                boolean can = name >= 0 && name <= 25 && name != 12;
                CHECK.is("rename to " + name, x.rename(side, 0, name) ? 1 : 0, can ? 1 : 0);
                CHECK.is("name then", x.column(side, 0, 0), can ? name : 12);
                CHECK.is("merged name then", x.column(3, 0, 0), can ? name : 12);
                TableMerge y = Check.told("column m number;");
                CHECK.is("add of " + name, y.add(side, name, 0), can ? 5 + 2 * side : -1);
                CHECK.is("refused", y.count(13), can ? 0 : 1);
            }
        }
    }

    /** "RENAMED: a NAME that no COLUMN there has": its own neither, and none of the other side's is asked for. */
    private static void nameThatNoneThereHas() {
        TableMerge x = Check.told("column a number;column b number;right add c flag;");
        CHECK.no("its own", x.rename(0, 0, 0));
        CHECK.no("of another one", x.rename(0, 0, 1));
        CHECK.no("of an added one", x.rename(1, 0, 2));
        CHECK.yes("of one that the other side added", x.rename(0, 0, 2));
        CHECK.yes("the one that is free now", x.rename(0, 1, 0));
        CHECK.no("which is taken again", x.rename(0, 0, 0));
        CHECK.yes("dropped", x.drop(1, 0));
        CHECK.yes("the dropped one's name", x.rename(1, 7, 0));
        CHECK.yes("an added one's name that is free", x.rename(1, 1, 2));
        CHECK.is("no such column any more", x.rename(1, 0, 20) ? 1 : 0, 0);
    }

    /** "RETYPED: another TYPE". */
    private static void anotherType() {
        for (int type = 0; type < 4; type++) {
            for (int to = -2; to <= 6; to++) {
                TableMerge x = Check.told(FOUR);
                boolean can = to >= 0 && to < 4 && to != type;
                CHECK.is("retype " + type + " to " + to, x.retype(1, type, to) ? 1 : 0, can ? 1 : 0);
                CHECK.is("type then", x.column(1, type, 1), can ? to : type);
                CHECK.is("refused", x.count(13), can ? 0 : 1);
                TableMerge y = new TableMerge();
                CHECK.is("add of type " + to, y.add(1, 3, to), to >= 0 && to < 4 ? 7 : -1);
            }
        }
    }

    private static int cast(int number, int type) {
        if (number == EMPTY || type == 0) {
            return number;
        }
        int size = Math.abs(number);
        if (type == 1) {
            return size % 10;
        }
        if (type == 2) {
            int even = size % 2 == 0 ? size : size - 1;
            return number < 0 ? -even : even;
        }
        return number == 0 ? 0 : 1;
    }

    /** "all its CELLS are CAST": of each ROW, of no other COLUMN, of no other TABLE. */
    private static void allCellsAreCast() {
        TableMerge x = Check.told("column a number;column b number;row 0 -15 -15;row 5 15 15;row 19 _ _;left insert 7;left set 7 0 -999;");
        CHECK.yes("to digit", x.retype(0, 0, 1));
        CHECK.is("key 0", x.cell(0, 0, 0), 5);
        CHECK.is("key 5", x.cell(0, 5, 0), 5);
        CHECK.is("key 7", x.cell(0, 7, 0), 9);
        CHECK.is("key 19", x.cell(0, 19, 0), EMPTY);
        CHECK.is("another column", x.cell(0, 0, 1), -15);
        CHECK.is("RIGHT", x.cell(1, 0, 0), -15);
        CHECK.is("BASE", x.cell(2, 0, 0), -15);
        CHECK.yes("then to flag", x.retype(0, 0, 3));
        CHECK.is("cast what was cast", x.cell(0, 7, 0), 1);
    }

    /** "A number CAST to a TYPE: to NUMBER as it is; to DIGIT its last digit, without a sign; to EVEN 1 nearer to 0, if it is odd; to FLAG 1, if it isn't 0". */
    private static void castsOfAllNumbers() {
        for (int from = -999; from <= 999; from += 12) {
            StringBuilder text = new StringBuilder("column a number;");
            for (int i = 0; i < 12 && from + i <= 999; i++) {
                text.append("row ").append(i).append(' ').append(from + i).append(';');
            }
            TableMerge x = Check.told(text.toString());
            for (int type = 1; type < 4; type++) {
                x.retype(0, 0, type);
                for (int i = 0; i < 12 && from + i <= 999; i++) {
                    CHECK.is("cast of " + (from + i) + " to " + type, x.cell(0, i, 0), cast(from + i, type));
                    CHECK.is("merged so", x.cell(3, i, 0), cast(from + i, type));
                }
                CHECK.is("changed", x.difference(0, 0), 0);
                x.undo();
            }
        }
        for (int from = 0; from < 4; from++) {
            for (int to = 0; to < 4; to++) {
                TableMerge x = Check.told(FOUR);
                if (from != to) {
                    x.retype(0, from, to);
                    CHECK.is("EMPTY stays, from " + from + " to " + to, x.cell(0, 0, from), EMPTY);
                    CHECK.is("from " + from + " to " + to, x.cell(0, 19, from), cast(x.cell(2, 19, from), to));
                }
            }
        }
    }

    /** "the next of the side's two numbers that it never had": 5, 6 of LEFT, 7, 8 of RIGHT. */
    private static void nextOfTwoNumbers() {
        TableMerge x = Check.told("column a number;column b number;column c number;column d number;column e number;");
        CHECK.is("RIGHT's first", x.add(1, 20, 0), 7);
        CHECK.is("LEFT's first", x.add(0, 20, 1), 5);
        CHECK.is("a refused one has no number", x.add(0, 20, 1), -1);
        CHECK.is("LEFT's second", x.add(0, 21, 2), 6);
        CHECK.is("RIGHT's second", x.add(1, 21, 3), 8);
        CHECK.is("LEFT's third", x.add(0, 22, 0), -1);
        CHECK.is("RIGHT's third", x.add(1, 22, 0), -1);
        CHECK.is("LEFT's columns", x.table(0, 0), 127);
        CHECK.is("RIGHT's columns", x.table(1, 0), 31 + 128 + 256);
        CHECK.is("refused", x.count(13), 3);
        CHECK.is("acts", x.count(9), 4);
    }

    /** "with a NAME that none there has, CELLS EMPTY". */
    private static void addedCellsEmpty() {
        TableMerge x = Check.told("column a number;row 0 1;row 19 2;right insert 5;");
        CHECK.is("a name that is there", x.add(1, 0, 0), -1);
        CHECK.is("added", x.add(1, 1, 3), 7);
        for (int key : new int[] {0, 5, 19}) {
            CHECK.is("cell of " + key, x.cell(1, key, 7), EMPTY);
            CHECK.is("merged cell of " + key, x.cell(3, key, 7), EMPTY);
        }
        CHECK.is("its name", x.column(1, 7, 0), 1);
        CHECK.is("its type", x.column(1, 7, 1), 3);
        CHECK.yes("the name of a dropped one", x.drop(1, 0));
        CHECK.is("added", x.add(1, 0, 2), 8);
    }

    /** "(a number is not had again)". */
    private static void numberNotHadAgain() {
        TableMerge x = Check.told("column a number;row 1 1;");
        CHECK.is("first", x.add(0, 5, 0), 5);
        x.set(0, 1, 5, 77);
        CHECK.yes("dropped", x.drop(0, 5));
        CHECK.is("second", x.add(0, 5, 0), 6);
        CHECK.is("its cell is EMPTY", x.cell(0, 1, 6), EMPTY);
        CHECK.yes("dropped", x.drop(0, 6));
        CHECK.is("none left", x.add(0, 5, 0), -1);
        CHECK.yes("a column of the BASE", x.drop(0, 0));
        CHECK.is("none left", x.add(0, 0, 0), -1);
        CHECK.is("RIGHT's two are its own", x.add(1, 5, 0), 7);
        x.undo();
        CHECK.is("undone: never had", x.add(1, 6, 1), 7);
    }

    /** "DROPPED: a COLUMN that is there is gone". */
    private static void dropped() {
        TableMerge x = Check.told("column a number;column b number;row 1 1 2;");
        CHECK.no("not there", x.drop(0, 2));
        CHECK.yes("there", x.drop(0, 0));
        CHECK.no("gone", x.drop(0, 0));
        CHECK.noSuch("its cell", () -> x.cell(0, 1, 0));
        CHECK.noSuch("its name", () -> x.column(0, 0, 0));
        CHECK.no("its name can't be another one", x.rename(0, 0, 9));
        CHECK.no("nor its type", x.retype(0, 0, 1));
        CHECK.no("nor its cell", x.set(0, 1, 0, 5));
        CHECK.yes("the last one", x.drop(0, 1));
        CHECK.is("none", x.table(0, 0), 0);
        CHECK.is("rows stay", x.table(0, 1), 2);
        CHECK.is("RIGHT has both", x.table(1, 0), 3);
    }

    /** "An EDIT of a side (0, 1)": nothing of the other side, of the BASE. */
    private static void sidesAreApart() {
        for (int side = 0; side < 2; side++) {
            TableMerge x = Check.told("column a number;column b number;row 1 1 2;row 2 3 4;");
            int other = 1 - side;
            x.set(side, 1, 0, 9);
            x.insert(side, 3);
            x.delete(side, 2);
            x.rename(side, 0, 20);
            x.retype(side, 1, 3);
            x.add(side, 21, 0);
            x.drop(side, 0);
            for (int table : new int[] {other, 2}) {
                CHECK.is("columns of " + table, x.table(table, 0), 3);
                CHECK.is("rows of " + table, x.table(table, 1), 6);
                CHECK.is("name", x.column(table, 0, 0), 0);
                CHECK.is("type", x.column(table, 1, 1), 0);
                for (int i = 0; i < 4; i++) {
                    CHECK.is("cell", x.cell(table, 1 + i / 2, i % 2), i + 1);
                }
            }
            for (int what = 0; what < 7; what++) {
                CHECK.is("difference of the other side", x.difference(other, what), 0);
            }
        }
    }

    /** "ACTS: EDITS by hand", not those of the text; a refused one is none. */
    private static void everyEditIsAnAct() {
        TableMerge x = Check.told("column a number;row 1 1;left set 1 0 5;right add z flag;");
        CHECK.is("none by the text", x.count(9), 0);
        x.set(0, 1, 0, 9);
        CHECK.is("set", x.count(9), 1);
        x.insert(1, 3);
        CHECK.is("insert", x.count(9), 2);
        x.delete(1, 3);
        CHECK.is("delete", x.count(9), 3);
        x.rename(0, 0, 20);
        CHECK.is("rename", x.count(9), 4);
        x.retype(0, 0, 3);
        CHECK.is("retype", x.count(9), 5);
        x.add(0, 21, 0);
        CHECK.is("add", x.count(9), 6);
        x.drop(0, 0);
        CHECK.is("drop", x.count(9), 7);
        x.drop(0, 0);
        x.add(0, 21, 0);
        x.retype(0, 0, 3);
        x.rename(0, 0, 20);
        x.delete(1, 3);
        x.insert(1, 1);
        x.set(0, 1, 0, 9);
        CHECK.is("refused ones", x.count(9), 7);
        CHECK.is("refused", x.count(13), 7);
    }
}
