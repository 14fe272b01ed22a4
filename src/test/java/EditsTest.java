/** Promises 11 to 17: set, insert, delete, rename, retype, add, drop. */
public final class EditsTest {
    private static final Check CHECK = new Check();
    private static int refused;

    public static void main(String[] args) {
        noSuchSides();
        sets();
        insertsAndDeletes();
        renames();
        retypes();
        adds();
        drops();
        CHECK.end();
    }

    private static TableMerge table() {
        refused = 0;
        return Check.told("column a number;column b digit;column c even;column d flag;row 1 10 3 4 1;row 2 _ _ _ _;");
    }

    private static void done(TableMerge x, String label, boolean got) {
        CHECK.yes(label, got);
        CHECK.is("refused behind " + label, x.count(13), refused);
    }

    private static void not(TableMerge x, String label, boolean got) {
        int acts = x.count(9);
        refused++;
        CHECK.no(label, got);
        CHECK.is("refused behind " + label, x.count(13), refused);
        CHECK.is("acts behind " + label, x.count(9), acts);
    }

    private static void noSuchSides() {
        TableMerge x = table();
        for (int side : new int[] {-1, 2, 3, Integer.MAX_VALUE, Integer.MIN_VALUE}) {
            CHECK.noSuchSide("set of " + side, () -> x.set(side, 1, 0, 5));
            CHECK.noSuchSide("insert of " + side, () -> x.insert(side, 3));
            CHECK.noSuchSide("delete of " + side, () -> x.delete(side, 1));
            CHECK.noSuchSide("rename of " + side, () -> x.rename(side, 0, 9));
            CHECK.noSuchSide("retype of " + side, () -> x.retype(side, 0, 1));
            CHECK.noSuch("add of " + side, () -> x.add(side, 9, 0));
            CHECK.noSuchSide("drop of " + side, () -> x.drop(side, 0));
            CHECK.noSuchSide("a set that can't be done, of " + side, () -> x.set(side, 99, 99, 99999));
        }
        CHECK.is("none is an act that was refused", x.count(13), 0);
        CHECK.is("none is an act", x.count(9), 0);
    }

    private static void sets() {
        TableMerge x = table();
        done(x, "a number", x.set(0, 1, 0, -999));
        CHECK.is("it is so", x.cell(0, 1, 0), -999);
        CHECK.is("not of the other side", x.cell(1, 1, 0), 10);
        CHECK.is("not of the BASE", x.cell(2, 1, 0), 10);
        CHECK.is("merged", x.cell(3, 1, 0), -999);
        done(x, "999", x.set(1, 1, 0, 999));
        not(x, "1000", x.set(0, 1, 0, 1000));
        not(x, "-1000", x.set(0, 1, 0, -1000));
        not(x, "the same one", x.set(0, 1, 0, -999));
        done(x, "EMPTY", x.set(0, 1, 0, TableMerge.EMPTY));
        not(x, "EMPTY again", x.set(0, 1, 0, TableMerge.EMPTY));
        not(x, "EMPTY that was", x.set(0, 2, 3, TableMerge.EMPTY));
        done(x, "digit 0", x.set(0, 1, 1, 0));
        done(x, "digit 9", x.set(0, 1, 1, 9));
        not(x, "digit 10", x.set(0, 1, 1, 10));
        not(x, "digit -1", x.set(0, 1, 1, -1));
        done(x, "even -998", x.set(0, 1, 2, -998));
        done(x, "even 998", x.set(0, 1, 2, 998));
        not(x, "even 997", x.set(0, 1, 2, 997));
        not(x, "even -997", x.set(0, 1, 2, -997));
        not(x, "even 1000", x.set(0, 1, 2, 1000));
        done(x, "flag 0", x.set(0, 1, 3, 0));
        done(x, "flag 1", x.set(0, 1, 3, 1));
        not(x, "flag 2", x.set(0, 1, 3, 2));
        not(x, "flag -1", x.set(0, 1, 3, -1));
        not(x, "no such row", x.set(0, 3, 0, 5));
        not(x, "key 20", x.set(0, 20, 0, 5));
        not(x, "key -1", x.set(0, -1, 0, 5));
        not(x, "no such column", x.set(0, 1, 4, 5));
        not(x, "column 9", x.set(0, 1, 9, 5));
        not(x, "column -1", x.set(0, 1, -1, 5));
        not(x, "great numbers", x.set(0, Integer.MAX_VALUE, Integer.MIN_VALUE, Integer.MIN_VALUE));
    }

    private static void insertsAndDeletes() {
        TableMerge x = table();
        for (int k = 3; k < 13; k++) {
            done(x, "insert " + k, x.insert(0, k));
        }
        CHECK.is("all cells EMPTY", x.cell(0, 12, 3), 9999);
        not(x, "a 13th row", x.insert(0, 13));
        done(x, "the other side has room", x.insert(1, 19));
        done(x, "delete", x.delete(0, 1));
        not(x, "delete again", x.delete(0, 1));
        not(x, "a row that was never there", x.delete(1, 13));
        not(x, "delete -1", x.delete(0, -1));
        not(x, "delete 20", x.delete(0, 20));
        not(x, "delete 34, whose bit wraps", x.delete(0, 34));
        CHECK.noSuch("its cell is gone", () -> x.cell(0, 1, 0));
        done(x, "room for a row again", x.insert(0, 1));
        CHECK.is("its cells are EMPTY now", x.cell(0, 1, 0), 9999);
        not(x, "insert what is there", x.insert(1, 1));
        not(x, "insert 20", x.insert(1, 20));
        not(x, "insert -1", x.insert(1, -1));
        done(x, "insert 0", x.insert(1, 0));
    }

    private static void renames() {
        TableMerge x = table();
        done(x, "rename", x.rename(0, 0, 25));
        CHECK.is("its name", x.column(0, 0, 0), 25);
        not(x, "as it is already", x.rename(0, 0, 25));
        not(x, "a name that is there", x.rename(0, 0, 1));
        done(x, "the name that is free now", x.rename(0, 1, 0));
        not(x, "a name that the other side has still", x.rename(1, 1, 0));
        not(x, "name 26", x.rename(0, 0, 26));
        not(x, "name -1", x.rename(0, 0, -1));
        not(x, "column 4", x.rename(0, 4, 20));
        not(x, "column -1", x.rename(0, -1, 20));
        not(x, "column 9", x.rename(0, 9, 20));
    }

    private static void retypes() {
        TableMerge x = table();
        not(x, "as it is already", x.retype(0, 0, 0));
        done(x, "to digit", x.retype(0, 0, 1));
        CHECK.is("its type", x.column(0, 0, 1), 1);
        CHECK.is("its cell is cast", x.cell(0, 1, 0), 0);
        CHECK.is("EMPTY stays", x.cell(0, 2, 0), 9999);
        CHECK.is("cast is not changed", x.difference(0, 0), 0);
        done(x, "and back", x.retype(0, 0, 0));
        CHECK.is("but not the number", x.cell(0, 1, 0), 0);
        CHECK.is("changed", x.difference(0, 0), 1);
        done(x, "digit 3 to flag", x.retype(1, 1, 3));
        CHECK.is("1", x.cell(1, 1, 1), 1);
        done(x, "flag 1 to even", x.retype(1, 3, 2));
        CHECK.is("0", x.cell(1, 1, 3), 0);
        not(x, "type 4", x.retype(0, 0, 4));
        not(x, "type -1", x.retype(0, 0, -1));
        not(x, "column 4", x.retype(0, 4, 1));
        not(x, "column -1", x.retype(0, -1, 1));
        not(x, "column 9", x.retype(0, 9, 1));
    }

    private static void adds() {
        TableMerge x = table();
        CHECK.is("LEFT's first", x.add(0, 25, 3), 5);
        CHECK.is("its cells are EMPTY", x.cell(0, 1, 5), 9999);
        CHECK.is("its type", x.column(0, 5, 1), 3);
        CHECK.is("a name that is there", x.add(0, 25, 3), -1);
        CHECK.is("a name of the BASE's", x.add(0, 0, 3), -1);
        CHECK.is("name 26", x.add(0, 26, 0), -1);
        CHECK.is("name -1", x.add(0, -1, 0), -1);
        CHECK.is("type 4", x.add(0, 24, 4), -1);
        CHECK.is("type -1", x.add(0, 24, -1), -1);
        CHECK.is("refused", x.count(13), 6);
        CHECK.is("LEFT's second", x.add(0, 24, 0), 6);
        CHECK.is("no third", x.add(0, 23, 0), -1);
        x.drop(0, 5);
        CHECK.is("a number is not had again", x.add(0, 23, 0), -1);
        CHECK.is("RIGHT's first", x.add(1, 25, 3), 7);
        x.drop(1, 7);
        CHECK.is("RIGHT's second", x.add(1, 25, 3), 8);
        CHECK.is("no third of RIGHT", x.add(1, 20, 3), -1);
        CHECK.is("refused then", x.count(13), 9);
        CHECK.is("acts", x.count(9), 6);
        x.undo();
        CHECK.is("undone, the number was never had", x.add(1, 20, 3), 8);
    }

    private static void drops() {
        TableMerge x = table();
        done(x, "drop", x.drop(0, 2));
        CHECK.is("columns", x.table(0, 0), 11);
        not(x, "drop again", x.drop(0, 2));
        not(x, "drop 4", x.drop(0, 4));
        not(x, "drop -1", x.drop(0, -1));
        not(x, "drop 9", x.drop(0, 9));
        not(x, "drop 33, whose bit wraps", x.drop(0, 33));
        not(x, "set of what is gone", x.set(0, 1, 2, 8));
        done(x, "its name is free", x.rename(0, 0, 2));
        done(x, "the other side has it still", x.drop(1, 2));
    }
}
