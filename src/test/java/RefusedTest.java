import java.util.NoSuchElementException;
import java.util.function.Supplier;
import java.util.function.ToIntFunction;

/**
 * Every refused call, at the last number that is still allowed and at the first that isn't: it answers or throws
 * what the document says, and all that can be asked for is as it was, but for what the document says is counted.
 */
public final class RefusedTest {
    private static final Check CHECK = new Check();
    private static final int NO_SUCH = -1_000_001;
    private static final int ILLEGAL = -1_000_002;
    private static final int NOT_COUNTED = -1;
    private static final int TEXTS = 12;
    private static final int ACTS = 13;
    private static final int SEEN = 14;
    private static final int MAX = Integer.MAX_VALUE;
    private static final int MIN = Integer.MIN_VALUE;

    public static void main(String[] args) {
        theObject();
        feeds();
        textsByLength();
        textsWithFault();
        looks();
        sidesAhead();
        sets();
        insertsAndDeletes();
        renamesAndRetypes();
        addsAndDrops();
        settles();
        unsettles();
        commits();
        whatIsFull();
        undoes();
        restores();
        differences();
        alongs();
        alones();
        sees();
        editeds();
        years();
        CHECK.end();
    }

    /** Something of all: conflicts, a choice that is used and one that waits, acts, what is seen, an image, a tape, a fault. */
    private static TableMerge busy() {
        TableMerge x = Check.told("column a number;column b digit;row 1 10 3;row 2 20 5;row 4 _ 7;unique 0;needed 1;"
                + "left set 1 0 11;right set 1 0 12;left add z flag;right add y even;right insert 3;left delete 4;right set 4 1 8;");
        Check.feed(x, "row 1;row 1;");
        x.tables(12);
        x.settle(5, 1, 0, 1);
        x.see(1, 0, 11);
        x.image();
        x.settle(4, 4, 0, 0);
        x.set(1, 4, 1, 7);
        x.see(2, 1, 5);
        x.insert(0, 20);
        x.see(20, 0, 0);
        Check.feed(x, "row 1;");
        return x;
    }

    private static void theObject() {
        TableMerge x = busy();
        CHECK.is("fault's place", x.fault(), 10);
        CHECK.is("conflicts", x.count(5), 1);
        CHECK.is("choices", x.count(6), 2);
        CHECK.is("choices that wait", x.count(7), 1);
        CHECK.is("acts", x.count(9), 3);
        CHECK.is("seen", x.count(10), 2);
        CHECK.is("bytes", x.count(11), 20);
        CHECK.is("texts refused", x.count(12), 1);
        CHECK.is("acts refused", x.count(13), 1);
        CHECK.is("not seen", x.count(14), 1);
        CHECK.yes("two such objects and all questions stay below 512 calls", 40 + 2 * Everything.callsOf(busy()) < 512);
    }

    private static int caught(TableMerge x, ToIntFunction<TableMerge> call) {
        try {
            return call.applyAsInt(x);
        } catch (NoSuchElementException e) {
            return NO_SUCH;
        } catch (IllegalArgumentException e) {
            return ILLEGAL;
        }
    }

    private static void same(String label, String got, String want) {
        if (!got.equals(want)) {
            String[] one = got.split("\n");
            String[] other = want.split("\n");
            for (int i = 0; i < Math.min(one.length, other.length); i++) {
                if (!one[i].equals(other[i])) {
                    System.out.println(label + ": " + one[i] + ", due is " + other[i]);
                    break;
                }
            }
        }
        CHECK.yes(label + ": all is as it was", got.equals(want));
    }

    private static void refused(String label, int answer, int counted, ToIntFunction<TableMerge> call) {
        refused(RefusedTest::busy, label, answer, counted, call);
    }

    /** The call is made on an object of its own, and never on another one made alike. */
    private static void refused(Supplier<TableMerge> made, String label, int answer, int counted, ToIntFunction<TableMerge> call) {
        TableMerge x = made.get();
        CHECK.is(label, caught(x, call), answer);
        same(label, Everything.of(x), Everything.withMore(made.get(), counted, 1));
        TableMerge back = made.get();
        x.undo();
        back.undo();
        same(label + ", and undone the act ahead", Everything.of(x), Everything.withMore(back, counted, 1));
        TableMerge y = made.get();
        caught(y, call);
        TableMerge image = made.get();
        CHECK.yes(label + ": the image is there", y.restore() && image.restore());
        same(label + ", and restored", Everything.of(y), Everything.withMore(image, counted, 1));
        y.undo();
        image.undo();
        same(label + ", and undone the image's act", Everything.of(y), Everything.withMore(image, counted, 1));
    }

    private static int bit(boolean answer) {
        return answer ? 1 : 0;
    }

    private static void feeds() {
        TableMerge x = busy();
        for (int i = 0; i < 34; i++) {
            x.feed(0x20202020, 0x20202020, 0x20202020, 0x20202020, 0x20202020);
        }
        String ahead = Everything.of(x);
        CHECK.is("700 bytes", x.count(11), 700);
        CHECK.is("a feed beyond", x.feed(0x3f3f3f3f, 0, -1, MAX, MIN), -1);
        same("a feed beyond 700", Everything.of(x), ahead);
        CHECK.is("the bytes are as they were", x.tables(700), 0);
        CHECK.is("the row of the tape", x.table(2, 1), 2);
    }

    private static void textsByLength() {
        for (int n : new int[] {-1, MIN, 21, 22, 700, 701, MAX}) {
            refused("tables(" + n + ") of 20 bytes", ILLEGAL, NOT_COUNTED, x -> x.tables(n));
        }
        TableMerge x = busy();
        CHECK.is("tables(20) of 20 bytes", x.tables(20), 0);
        TableMerge y = busy();
        CHECK.is("tables(0) of 20 bytes", y.tables(0), 0);
        CHECK.is("the tape is empty then", y.count(11), 0);
        CHECK.illegal("tables(1) of none", () -> y.tables(1));
        CHECK.is("tables(0) of none", y.tables(0), 0);
    }

    /** A FAULT, of each number: counted, its place is told, the tape is empty; all else stays. */
    private static void textsWithFault() {
        String[] texts = {"row 1", "column a number;row 20 1;", "column a number;unique 1;", "column a number;row 1 1;row 1 2;",
            "column a digit;unique 0;row 1 10;", "column a digit;row 1 1;left add b flag;right delete 1;left set 1 0 2;right delete 1;"};
        int[] places = {5, 20, 23, 28, 30, 69};
        for (int fault = 1; fault <= 6; fault++) {
            textWithFault(texts[fault - 1], fault, places[fault - 1]);
        }
    }

    private static void textWithFault(String text, int fault, int place) {
        for (int then = 0; then < 3; then++) {
            TableMerge x = busy();
            TableMerge other = busy();
            // what stands on the tape of busy() is a LINE of blanks behind 'row 1;': it is read away by a FAULT, too
            x.tables(5);
            other.tables(5);
            Check.feed(x, text);
            CHECK.is("'" + text + "'", x.tables(text.length()), fault);
            if (then == 1) {
                CHECK.is("undone", x.undo(), other.undo());
            } else if (then == 2) {
                CHECK.yes("restored", x.restore() && other.restore());
            }
            CHECK.is("its place", x.fault(), place);
            String due = Everything.withMore(other, TEXTS, 1).replace("fault=5\n", "fault=" + place + "\n");
            same("a text with fault " + fault + ", " + then, Everything.of(x), due);
        }
    }

    private static void looks() {
        for (int what : new int[] {-1, 15, MIN, MAX}) {
            refused("count(" + what + ")", NO_SUCH, NOT_COUNTED, x -> x.count(what));
        }
        for (int n : new int[] {-1, 4, MIN, MAX}) {
            refused("table(" + n + ", 0)", NO_SUCH, NOT_COUNTED, x -> x.table(n, 0));
            refused("column(" + n + ", 0, 0)", NO_SUCH, NOT_COUNTED, x -> x.column(n, 0, 0));
            refused("cell(" + n + ", 1, 0)", NO_SUCH, NOT_COUNTED, x -> x.cell(n, 1, 0));
        }
        for (int what : new int[] {-1, 2, MIN, MAX}) {
            refused("table(3, " + what + ")", NO_SUCH, NOT_COUNTED, x -> x.table(3, what));
            refused("column(3, 0, " + what + ")", NO_SUCH, NOT_COUNTED, x -> x.column(3, 0, what));
        }
        for (int column : new int[] {-1, 2, 4, 6, 8, 9, 31, 32, 64, MIN, MAX}) {
            refused("column(3, " + column + ", 0)", NO_SUCH, NOT_COUNTED, x -> x.column(3, column, 0));
            refused("cell(3, 1, " + column + ")", NO_SUCH, NOT_COUNTED, x -> x.cell(3, 1, column));
            refused("whose(1, " + column + ")", NO_SUCH, NOT_COUNTED, x -> x.whose(1, column));
        }
        for (int key : new int[] {-1, 0, 5, 19, 20, 33, 65, MIN, MAX}) {
            refused("cell(2, " + key + ", 0)", NO_SUCH, NOT_COUNTED, x -> x.cell(2, key, 0));
            refused("whose(" + key + ", 0)", NO_SUCH, NOT_COUNTED, x -> x.whose(key, 0));
        }
        for (int i : new int[] {-1, 1, 2, MIN, MAX}) {
            refused("conflict(" + i + ", 0)", NO_SUCH, NOT_COUNTED, x -> x.conflict(i, 0));
        }
        for (int what : new int[] {-1, 6, MIN, MAX}) {
            refused("conflict(0, " + what + ")", NO_SUCH, NOT_COUNTED, x -> x.conflict(0, what));
        }
    }

    /** Ahead of all else: with numbers by which it could be done, and with numbers by which it couldn't. */
    private static void sidesAhead() {
        for (int side : new int[] {-1, 2, 3, MIN, MAX}) {
            refused("set of " + side, NO_SUCH, NOT_COUNTED, x -> bit(x.set(side, 1, 0, 5)));
            refused("insert of " + side, NO_SUCH, NOT_COUNTED, x -> bit(x.insert(side, 7)));
            refused("delete of " + side, NO_SUCH, NOT_COUNTED, x -> bit(x.delete(side, 1)));
            refused("rename of " + side, NO_SUCH, NOT_COUNTED, x -> bit(x.rename(side, 0, 9)));
            refused("retype of " + side, NO_SUCH, NOT_COUNTED, x -> bit(x.retype(side, 0, 1)));
            refused("add of " + side, NO_SUCH, NOT_COUNTED, x -> x.add(side, 9, 1));
            refused("drop of " + side, NO_SUCH, NOT_COUNTED, x -> bit(x.drop(side, 0)));
            refused("a set of " + side + " that can't be", NO_SUCH, NOT_COUNTED, x -> bit(x.set(side, 20, 9, 1000)));
            refused("an insert of " + side + " that can't be", NO_SUCH, NOT_COUNTED, x -> bit(x.insert(side, 20)));
            refused("a delete of " + side + " that can't be", NO_SUCH, NOT_COUNTED, x -> bit(x.delete(side, 20)));
            refused("a rename of " + side + " that can't be", NO_SUCH, NOT_COUNTED, x -> bit(x.rename(side, 9, 26)));
            refused("a retype of " + side + " that can't be", NO_SUCH, NOT_COUNTED, x -> bit(x.retype(side, 9, 4)));
            refused("an add of " + side + " that can't be", NO_SUCH, NOT_COUNTED, x -> x.add(side, 26, 4));
            refused("a drop of " + side + " that can't be", NO_SUCH, NOT_COUNTED, x -> bit(x.drop(side, 9)));
        }
    }

    private static void sets() {
        for (int key : new int[] {-1, 0, 4, 19, 20, 33, MIN, MAX}) {
            refused("set of LEFT's key " + key, 0, ACTS, x -> bit(x.set(0, key, 0, 5)));
        }
        for (int column : new int[] {-1, 2, 4, 6, 7, 9, 32, MIN, MAX}) {
            refused("set of LEFT's column " + column, 0, ACTS, x -> bit(x.set(0, 1, column, 1)));
        }
        for (int number : new int[] {-1000, 1000, 11, 9998, 10000, MIN, MAX}) {
            refused("set to the number " + number, 0, ACTS, x -> bit(x.set(0, 1, 0, number)));
        }
        for (int number : new int[] {-1, 10, 3, 9998, 10000}) {
            refused("set to the digit " + number, 0, ACTS, x -> bit(x.set(0, 1, 1, number)));
        }
        for (int number : new int[] {-1, 2, TableMerge.EMPTY, 9998}) {
            refused("set to the flag " + number, 0, ACTS, x -> bit(x.set(0, 1, 5, number)));
        }
        for (int number : new int[] {-999, -1000, 999, 1000, 1, -1, TableMerge.EMPTY}) {
            refused("set to the even " + number, 0, ACTS, x -> bit(x.set(1, 1, 7, number)));
        }
    }

    private static void insertsAndDeletes() {
        for (int key : new int[] {-1, 20, 1, 2, 32, 52, MIN, MAX}) {
            refused("insert " + key, 0, ACTS, x -> bit(x.insert(0, key)));
        }
        for (int key : new int[] {-1, 20, 0, 3, 4, 19, 33, MIN, MAX}) {
            refused("delete " + key, 0, ACTS, x -> bit(x.delete(0, key)));
        }
    }

    private static void renamesAndRetypes() {
        for (int name : new int[] {-1, 26, 0, 1, 25, MIN, MAX}) {
            refused("rename to " + name, 0, ACTS, x -> bit(x.rename(0, 0, name)));
        }
        for (int column : new int[] {-1, 2, 4, 6, 7, 8, 9, 32, MIN, MAX}) {
            refused("rename of " + column, 0, ACTS, x -> bit(x.rename(0, column, 9)));
            refused("retype of " + column, 0, ACTS, x -> bit(x.retype(0, column, 1)));
        }
        for (int type : new int[] {-1, 4, 0, MIN, MAX}) {
            refused("retype to " + type, 0, ACTS, x -> bit(x.retype(0, 0, type)));
        }
    }

    private static void addsAndDrops() {
        for (int name : new int[] {-1, 26, 0, 1, 25, MIN, MAX}) {
            refused("add of the name " + name, -1, ACTS, x -> x.add(0, name, 1));
        }
        for (int type : new int[] {-1, 4, MIN, MAX}) {
            refused("add of the type " + type, -1, ACTS, x -> x.add(0, 9, type));
        }
        for (int column : new int[] {-1, 2, 4, 6, 7, 8, 9, 32, MIN, MAX}) {
            refused("drop of " + column, 0, ACTS, x -> bit(x.drop(0, column)));
        }
    }

    /** The one CONFLICT is 6 (1, 3); 5 (1, 0) is settled, 4 (4, 0) waits. */
    private static void settles() {
        CHECK.is("choice 0", busy().settle(6, 1, 3, 0), 0);
        CHECK.is("choice 1", busy().settle(6, 1, 3, 1), 0);
        for (int choice : new int[] {-1, 2, MIN, MAX}) {
            refused("choice " + choice, -1, ACTS, x -> x.settle(6, 1, 3, choice));
        }
        int[][] none = {{5, 1, 0}, {4, 4, 0}, {6, 1, 2}, {6, 1, 4}, {6, 0, 3}, {6, 2, 3}, {6, 3, 3}, {6, 4, 3}, {6, -1, 3}, {6, 1, 20}, {6, 1, -1},
            {7, 1, 3}, {-1, 1, 3}, {5, 1, 1}, {5, 20, 0}, {5, 1, 9}, {4, 20, 0}, {0, 9, 0}, {0, 0, 1}, {MIN, MIN, MIN}, {MAX, MAX, MAX}, {6, MAX, MIN}};
        for (int[] id : none) {
            refused("settle " + id[0] + " " + id[1] + " " + id[2], -1, ACTS, x -> x.settle(id[0], id[1], id[2], 0));
        }
    }

    private static void unsettles() {
        CHECK.is("the choice that is used", busy().unsettle(5, 1, 0), 1);
        CHECK.is("the choice that waits", busy().unsettle(4, 4, 0), 0);
        int[][] none = {{6, 1, 3}, {5, 1, 1}, {5, 0, 0}, {5, 0, 9}, {5, 2, -9}, {4, 4, 1}, {4, 3, 0}, {4, 20, 0}, {7, 1, 0}, {-1, 1, 0}, {0, 9, 0},
            {6, 4, 0}, {6, 0, 20}, {6, -1, 0}, {MIN, MIN, MIN}, {MAX, MAX, MAX}};
        for (int[] id : none) {
            refused("unsettle " + id[0] + " " + id[1] + " " + id[2], -1, ACTS, x -> x.unsettle(id[0], id[1], id[2]));
        }
    }

    private static void commits() {
        refused("commit with a conflict", -1, ACTS, TableMerge::commit);
        refused(RefusedTest::sixColumns, "commit of six columns", -1, ACTS, TableMerge::commit);
        refused(RefusedTest::thirteenRows, "commit of thirteen rows", -1, ACTS, TableMerge::commit);
    }

    private static TableMerge sixColumns() {
        TableMerge x = Check.told("column a number;column b digit;column c even;column d flag;row 1 1 2 4 1;needed 0;left add y flag;left set 1 0 5;");
        x.image();
        x.add(1, 25, 1);
        x.see(1, 0, 5);
        return x;
    }

    /** LEFT has twelve, and had both its numbers, one of which is dropped. */
    private static TableMerge thirteenRows() {
        TableMerge x = Check.told("row 0;row 1;row 2;row 3;row 4;row 5;row 6;row 7;row 8;row 9;row 10;left insert 11;left add a flag;left add b flag;left drop 5;left drop 6;");
        x.insert(1, 19);
        x.image();
        x.delete(1, 0);
        x.insert(1, 0);
        return x;
    }

    private static void whatIsFull() {
        CHECK.is("thirteen rows merged", thirteenRows().count(4), 13);
        CHECK.is("no conflict", thirteenRows().count(5), 0);
        CHECK.is("six columns merged", sixColumns().count(3), 6);
        CHECK.is("no conflict", sixColumns().count(5), 0);
        refused(RefusedTest::thirteenRows, "a 13th row of LEFT", 0, ACTS, x -> bit(x.insert(0, 12)));
        refused(RefusedTest::thirteenRows, "a 13th row of RIGHT", 0, ACTS, x -> bit(x.insert(1, 12)));
        refused(RefusedTest::thirteenRows, "a third column of LEFT", -1, ACTS, x -> x.add(0, 5, 0));
        refused(RefusedTest::thirteenRows, "a dropped column's cell", 0, ACTS, x -> bit(x.set(0, 1, 5, 1)));
        refused(RefusedTest::thirteenRows, "a dropped column's name", 0, ACTS, x -> bit(x.rename(0, 5, 9)));
        refused(RefusedTest::thirteenRows, "a dropped column, dropped", 0, ACTS, x -> bit(x.drop(0, 6)));
    }

    private static void undoes() {
        TableMerge x = busy();
        TableMerge other = busy();
        for (int left = 2; left >= 0; left--) {
            CHECK.is("undo", x.undo(), left);
            other.undo();
        }
        CHECK.is("no act left", x.undo(), -1);
        same("an undo of none", Everything.of(x), Everything.of(other));
    }

    private static void restores() {
        TableMerge x = busy();
        TableMerge other = busy();
        CHECK.is("told anew", x.tables(6) + other.tables(6), 0);
        x.insert(0, 4);
        other.insert(0, 4);
        CHECK.no("the image is gone", x.restore());
        same("a restore of none", Everything.of(x), Everything.of(other));
        CHECK.is("the act is there", x.undo(), 0);
        CHECK.is("and was undone", x.table(0, 1), 2);
    }

    private static void differences() {
        for (int side : new int[] {-1, 2, 3, MIN, MAX}) {
            refused("difference of " + side, NO_SUCH, NOT_COUNTED, x -> x.difference(side, 0));
        }
        for (int what : new int[] {-1, 7, MIN, MAX}) {
            refused("difference, what " + what, NO_SUCH, NOT_COUNTED, x -> x.difference(1, what));
        }
    }

    private static void alongs() {
        for (int n : new int[] {-1, 3, MIN, MAX}) {
            refused("along, what " + n, NO_SUCH, NOT_COUNTED, x -> x.along(0, n));
            refused("along, choice " + n, ILLEGAL, NOT_COUNTED, x -> x.along(n, 0));
            refused("along, what ahead of choice " + n, NO_SUCH, NOT_COUNTED, x -> x.along(n, n));
        }
    }

    private static void alones() {
        for (int side : new int[] {-1, 2, MIN, MAX}) {
            refused("alone of " + side, NO_SUCH, NOT_COUNTED, x -> x.alone(side, 0));
        }
        for (int what : new int[] {-1, 3, MIN, MAX}) {
            refused("alone, what " + what, NO_SUCH, NOT_COUNTED, x -> x.alone(0, what));
        }
    }

    private static void sees() {
        for (int key : new int[] {-1, 20, MIN, MAX}) {
            refused("see key " + key, -1, SEEN, x -> x.see(key, 0, 0));
        }
        for (int column : new int[] {-1, 9, MIN, MAX}) {
            refused("see column " + column, -1, SEEN, x -> x.see(1, column, 0));
        }
        for (int number : new int[] {-1000, 1000, 9998, 10000, -9999, MIN, MAX}) {
            refused("see number " + number, -1, SEEN, x -> x.see(1, 0, number));
        }
        TableMerge x = busy();
        TableMerge other = busy();
        for (int i = 3; i <= 8; i++) {
            CHECK.is("seen", x.see(1, 0, 11), i);
            other.see(1, 0, 11);
        }
        CHECK.is("a ninth", x.see(1, 0, 12), -1);
        same("a ninth", Everything.of(x), Everything.withMore(other, SEEN, 1));
    }

    private static void editeds() {
        for (int what : new int[] {-1, 3, MIN, MAX}) {
            refused("edited, what " + what, NO_SUCH, NOT_COUNTED, x -> x.edited(what));
        }
    }

    private static void years() {
        for (int what : new int[] {-1, 3, MIN, MAX}) {
            refused("years, what " + what, NO_SUCH, NOT_COUNTED, x -> x.years(1, 1, what));
            refused("years, what ahead of n, " + what, NO_SUCH, NOT_COUNTED, x -> x.years(1, 61, what));
        }
        for (int n : new int[] {-1, 61, MIN, MAX}) {
            refused("years, n " + n, ILLEGAL, NOT_COUNTED, x -> x.years(1, n, 0));
        }
    }
}
