import java.util.ArrayList;
import java.util.List;
import java.util.TreeSet;

/** Promises 23 to 29: difference, along, alone, see, forget, edited, years. */
public final class QuestionsTest {
    private static final Check CHECK = new Check();

    public static void main(String[] args) {
        differences();
        alongs();
        alongWithManyConflicts();
        alongChangesNothing();
        alones();
        alonePicksTen();
        aloneRefused();
        sees();
        editeds();
        editedCounts();
        yearsByDraws();
        yearsLikeByHand();
        yearsRefused();
        CHECK.end();
    }

    private static void differences() {
        TableMerge x = Check.told("column a number;column b number;column c number;row 1 1 2 3;row 2 4 5 6;row 3 7 8 9;"
                + "left set 1 0 9;left set 2 1 9;left insert 5;left set 5 0 1;left add k flag;left set 1 5 1;left delete 3;"
                + "left drop 2;left rename 0 z;left retype 1 digit;left add l flag;right rename 0 z;right rename 0 a;right retype 0 flag;right set 1 0 0;");
        int[] left = {2, 1, 1, 2, 1, 1, 1};
        int[] right = {1, 0, 0, 0, 0, 0, 1};
        for (int what = 0; what < 7; what++) {
            CHECK.is("LEFT's difference " + what, x.difference(0, what), left[what]);
            CHECK.is("RIGHT's difference " + what, x.difference(1, what), right[what]);
        }
        TableMerge y = Check.told("column a number;column b number;column c number;right rename 1 x;right rename 2 y;right retype 2 flag;");
        CHECK.is("two renamed", y.difference(1, 5), 2);
        CHECK.is("one retyped", y.difference(1, 6), 1);
        CHECK.noSuch("side -1", () -> x.difference(-1, 0));
        CHECK.noSuch("side 2", () -> x.difference(2, 0));
        CHECK.noSuch("what -1", () -> x.difference(0, -1));
        CHECK.noSuch("what 7", () -> x.difference(0, 7));
    }

    private static TableMerge conflicts() {
        return Check.told("column a number;column b number;row 1 1 1;row 2 2 2;row 3 3 3;unique 0;"
                + "left set 1 0 7;right set 1 0 8;left delete 2;right set 2 1 9;left set 3 0 8;left rename 1 x;right rename 1 y;");
    }

    private static void along(TableMerge x, int choice, int settled, int left, int rows) {
        CHECK.is("along " + choice + ": settled", x.along(choice, 0), settled);
        CHECK.is("along " + choice + ": left", x.along(choice, 1), left);
        CHECK.is("along " + choice + ": rows", x.along(choice, 2), rows);
    }

    private static void alongs() {
        TableMerge x = conflicts();
        CHECK.is("conflicts", x.count(5), 3);
        along(x, 0, 3, 0, 3);
        along(x, 1, 3, 0, 2);
        along(x, 2, 4, 0, 1);
        CHECK.noSuch("what 3", () -> x.along(0, 3));
        CHECK.noSuch("what -1", () -> x.along(0, -1));
        CHECK.noSuch("what 3, choice 3: the what is ahead", () -> x.along(3, 3));
        CHECK.illegal("choice 3", () -> x.along(3, 0));
        CHECK.illegal("choice -1", () -> x.along(-1, 2));
    }

    private static void alongWithManyConflicts() {
        StringBuilder text = new StringBuilder();
        for (int c = 0; c < 5; c++) {
            text.append("column ").append((char) ('a' + c)).append(" flag;");
        }
        for (int k = 0; k < 12; k++) {
            text.append("row ").append(k).append(" _ _ _ _ _;");
        }
        text.append("needed 0;needed 1;needed 2;needed 3;");
        TableMerge x = Check.told(text.toString());
        CHECK.is("conflicts", x.count(5), 48);
        along(x, 0, 48, 0, 12);
        along(x, 1, 12, 0, 0);
        for (int k = 0; k < 8; k++) {
            x.insert(0, 12 + k);
        }
        CHECK.is("no room in LEFT", x.count(4), 12);
        for (int k = 0; k < 8; k++) {
            x.delete(0, k);
            x.insert(0, 12 + k);
        }
        CHECK.is("of the BASE's, those that LEFT deleted are gone", x.count(4), 12);
        along(x, 0, 48, 0, 12);
    }

    private static void alongChangesNothing() {
        TableMerge x = conflicts();
        x.along(2, 0);
        x.along(1, 1);
        CHECK.is("conflicts", x.count(5), 3);
        CHECK.is("choices", x.count(6), 0);
        CHECK.is("acts", x.count(9), 0);
        x.settle(1, 1, 0, 0);
        CHECK.is("with choices that are there", x.along(1, 0), 2);
        x.undo();
        CHECK.is("and without again", x.along(1, 0), 3);
    }

    private static void alone(TableMerge x, int side, int conflicts, int cells, int bits) {
        CHECK.is("alone " + side + ": conflicts", x.alone(side, 0), conflicts);
        CHECK.is("alone " + side + ": cells", x.alone(side, 1), cells);
        CHECK.is("alone " + side + ": which", x.alone(side, 2), bits);
    }

    private static void alones() {
        TableMerge x = Check.told("column a number;column b number;row 1 1 2;row 2 3 4;left set 1 0 9;left set 1 1 8;left set 2 0 7;right set 1 0 10;");
        alone(x, 0, 0, 2, 6);
        alone(x, 1, 0, 0, 0);
        x.settle(5, 1, 0, 0);
        alone(x, 0, 0, 3, 7);
        TableMerge unique = Check.told("column a number;row 1 1;row 2 2;row 3 3;unique 0;left set 1 0 9;left set 2 0 9;left set 3 0 9;");
        alone(unique, 0, 0, 1, 1);
        alone(unique, 1, 2, 0, 0);
        TableMerge twin = Check.told("row 1;left add x digit;right add x digit;left set 1 5 1;right set 1 7 2;right add y digit;right set 1 8 3;");
        alone(twin, 1, 0, 1, 2);
        twin.retype(0, 5, 0);
        CHECK.conflict(twin, 0, 3, 7, 0);
        alone(twin, 1, 1, 2, 3);
        twin.settle(3, 7, 0, 1);
        alone(twin, 1, 0, 1, 1);
        twin.set(1, 1, 8, TableMerge.EMPTY);
        alone(twin, 1, 0, 0, 0);
        TableMerge gone = Check.told("column a number;column b number;row 1 1 1;row 2 2 2;left drop 0;right set 1 0 5;right set 2 1 6;");
        CHECK.is("the column is kept", gone.count(5), 1);
        alone(gone, 1, 0, 1, 2);
        gone.settle(0, 0, 0, 1);
        alone(gone, 1, 0, 1, 1);
    }

    private static void alonePicksTen() {
        StringBuilder text = new StringBuilder("column a number;");
        for (int k = 0; k < 12; k++) {
            text.append("row ").append(k).append(" 1;");
        }
        for (int k = 0; k < 12; k++) {
            text.append("left set ").append(k).append(" 0 ").append(k + 2).append(";");
        }
        TableMerge x = Check.told(text.toString());
        for (int k = 0; k < 12; k += 2) {
            x.set(1, k, 0, 50);
        }
        alone(x, 0, 1, 5, 0b1010101010);
        x.settle(5, 10, 0, 0);
        alone(x, 0, 0, 5, 0b1010101010);
        alone(x, 1, 0, 1, 32);
    }

    private static void aloneRefused() {
        TableMerge x = conflicts();
        CHECK.noSuch("side 2", () -> x.alone(2, 0));
        CHECK.noSuch("side -1", () -> x.alone(-1, 0));
        CHECK.noSuch("what 3", () -> x.alone(0, 3));
        CHECK.noSuch("what -1", () -> x.alone(1, -1));
        x.alone(0, 0);
        CHECK.is("LEFT is as it was", x.cell(0, 1, 0), 7);
        CHECK.is("conflicts are as they were", x.count(5), 3);
    }

    private static void sees() {
        TableMerge x = Check.told("column a number;row 1 1;");
        CHECK.is("key -1", x.see(-1, 0, 0), -1);
        CHECK.is("key 20", x.see(20, 0, 0), -1);
        CHECK.is("column -1", x.see(0, -1, 0), -1);
        CHECK.is("column 9", x.see(0, 9, 0), -1);
        CHECK.is("number 1000", x.see(0, 0, 1000), -1);
        CHECK.is("number -1000", x.see(0, 0, -1000), -1);
        CHECK.is("number 9998", x.see(0, 0, 9998), -1);
        CHECK.is("refused", x.count(14), 7);
        CHECK.is("none seen", x.count(10), 0);
        CHECK.is("999", x.see(19, 8, 999), 1);
        CHECK.is("-999", x.see(0, 0, -999), 2);
        CHECK.is("EMPTY", x.see(0, 0, 9999), 3);
        for (int i = 4; i <= 8; i++) {
            CHECK.is("seen " + i, x.see(0, 0, 9999), i);
        }
        CHECK.is("a ninth", x.see(0, 0, 0), -1);
        CHECK.is("refused", x.count(14), 8);
        CHECK.is("seen", x.count(10), 8);
        x.forget();
        CHECK.is("forgotten", x.count(10), 0);
        CHECK.is("the refused stay", x.count(14), 8);
        CHECK.is("no act", x.count(9), 0);
        CHECK.is("seen anew", x.see(1, 0, 1), 1);
    }

    private static void edited(TableMerge x, int ways, int first, int without) {
        CHECK.is("edited: ways", x.edited(0), ways);
        CHECK.is("edited: first", x.edited(1), first);
        CHECK.is("edited: without", x.edited(2), without);
    }

    private static void editeds() {
        TableMerge x = Check.told("column a number;column b digit;row 1 1 2;row 3 3 4;left set 3 1 5;");
        x.see(1, 0, -9);
        edited(x, 1, 1041, 0);
        x.see(3, 1, 5);
        edited(x, 1, 1041, 0);
        x.see(3, 1, 6);
        edited(x, 0, -1, 0);
        x.forget();
        x.see(3, 1, 4);
        CHECK.is("RIGHT's own would meet LEFT's: the BASE's is seen", x.edited(0), 8);
        CHECK.is("the first", x.edited(1), 3150);
        x.forget();
        x.see(1, 0, 1);
        CHECK.is("so without", x.edited(2), 1);
        CHECK.is("any other cell, too", x.edited(0), 9 + 18 + 9);
        CHECK.is("first", x.edited(1), 1150);
        x.forget();
        x.see(2, 0, 9999);
        edited(x, 0, -1, 0);
        x.forget();
        x.see(1, 7, 9999);
        edited(x, 0, -1, 0);
        CHECK.noSuch("what 3", () -> x.edited(3));
        CHECK.noSuch("what -1", () -> x.edited(-1));
        CHECK.is("RIGHT is as it was", x.cell(1, 1, 0), 1);
        CHECK.is("no act", x.count(9), 0);
    }

    private static void editedCounts() {
        TableMerge x = Check.told("column a number;column b flag;column c even;row 1 1 _ 2;row 2 20 1 2;right insert 5;right add z flag;");
        edited(x, 18 + 2 + 8 + 19 + 1 + 8, 1041, 1);
        x.delete(1, 2);
        edited(x, 18 + 2 + 8, 1041, 1);
        x.drop(1, 0);
        edited(x, 2 + 8, 1150, 1);
        x.retype(1, 2, 1);
        edited(x, 2 + 9, 1150, 1);
        TableMerge left = Check.told("column a flag;column b flag;row 1 0 0;row 2 0 0;left delete 1;left drop 1;left insert 5;right insert 5;left add x flag;");
        edited(left, 4, 1051, 1);
        TableMerge none = new TableMerge();
        edited(none, 0, -1, 1);
        none.see(0, 0, 9999);
        edited(none, 0, -1, 0);
    }

    private static int seed;

    private static int draw(int n) {
        seed = seed * 1103515245 + 12345;
        return (seed >>> 16 & 0x7fff) % n;
    }

    /** Without columns only rows can come and go: the sets of keys tell all that is due. */
    private static void yearsByDraws() {
        for (int first : new int[] {0, 1, 5, -7, 123456789, Integer.MAX_VALUE, Integer.MIN_VALUE}) {
            seed = first;
            List<TreeSet<Integer>> sides = new ArrayList<>(List.of(new TreeSet<>(), new TreeSet<>()));
            int done = 0;
            for (int i = 0; i < 60; i++) {
                TreeSet<Integer> side = sides.get(draw(2));
                int what = draw(4);
                int number = draw(what == 3 ? 9 : 20);
                if (what == 0) {
                    draw(9);
                    draw(10);
                } else if (what == 3) {
                    draw(4);
                } else if (what == 1 ? side.size() < 12 && side.add(number) : side.remove(number)) {
                    done++;
                }
            }
            TreeSet<Integer> all = new TreeSet<>(sides.get(0));
            all.addAll(sides.get(1));
            TableMerge x = new TableMerge();
            CHECK.is("years done, seed " + first, x.years(first, 60, 0), done);
            CHECK.is("years' conflicts, seed " + first, x.years(first, 60, 1), 0);
            CHECK.is("years' rows, seed " + first, x.years(first, 60, 2), all.size());
            CHECK.is("all as ever", x.count(4) + x.count(9) + x.count(13), 0);
        }
    }

    private static final String YEARS_TEXT = "column a number;column b digit;column c flag;row 0 1 2 1;row 3 4 5 0;row 7 7 7 1;row 9 9 9 0;row 12 _ _ _;unique 0;left add x number;";

    /** The same edits by hand, on another object. */
    private static void yearsLikeByHand() {
        for (int first = 0; first < 40; first++) {
            TableMerge x = Check.told(YEARS_TEXT);
            TableMerge hand = Check.told(YEARS_TEXT);
            seed = first;
            int n = first % 61;
            int done = 0;
            for (int i = 0; i < n; i++) {
                int side = draw(2);
                int what = draw(4);
                boolean could;
                if (what == 3) {
                    int column = draw(9);
                    could = hand.retype(side, column, draw(4));
                } else {
                    int key = draw(20);
                    if (what == 0) {
                        int column = draw(9);
                        could = hand.set(side, key, column, draw(10));
                    } else {
                        could = what == 1 ? hand.insert(side, key) : hand.delete(side, key);
                    }
                }
                done += could ? 1 : 0;
            }
            CHECK.is("years done, seed " + first, x.years(first, n, 0), done);
            CHECK.is("years' conflicts, seed " + first, x.years(first, n, 1), hand.count(5));
            CHECK.is("years' rows, seed " + first, x.years(first, n, 2), hand.count(4));
            CHECK.is("LEFT as ever", x.difference(0, 0) + x.difference(0, 1) + x.difference(0, 2), 0);
        }
    }

    private static void yearsRefused() {
        TableMerge x = new TableMerge();
        CHECK.noSuch("what 3", () -> x.years(1, 1, 3));
        CHECK.noSuch("what -1", () -> x.years(1, 1, -1));
        CHECK.noSuch("what 3, n 61: the what is ahead", () -> x.years(1, 61, 3));
        CHECK.illegal("n 61", () -> x.years(1, 61, 0));
        CHECK.illegal("n -1", () -> x.years(1, -1, 0));
        CHECK.is("n 0", x.years(1, 0, 0), 0);
    }
}
