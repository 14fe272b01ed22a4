import java.util.ArrayList;
import java.util.List;
import java.util.NoSuchElementException;
import java.util.Random;

/** Runs of calls by seeds, each answered by the class and by Model: the answers must be alike. */
public final class ModelTest {
    private static final int THROWS_NO_SUCH = -1_000_001;
    private static final int THROWS_ILLEGAL = -1_000_002;
    private static int wrong = 0;

    private interface Call {
        int answer();
    }

    private final Random random;
    /** Half of the runs have few rows, and sides that seldom lose any: there edits meet far more often. */
    private final boolean calm;
    private final TableMerge real = new TableMerge();
    private final Model model = new Model();
    private final List<String> log = new ArrayList<>();

    private ModelTest(long seed) {
        random = new Random(seed);
        calm = random.nextBoolean();
    }

    public static void main(String[] args) {
        int runs = args.length > 0 ? Integer.parseInt(args[0]) : 2500;
        long from = args.length > 1 ? Long.parseLong(args[1]) : 1;
        for (long seed = from; seed < from + runs && wrong < 5; seed++) {
            new ModelTest(seed).run(seed);
        }
        System.out.println(wrong == 0 ? runs + " runs as the model" : wrong + " runs unlike the model");
        System.exit(wrong == 0 ? 0 : 1);
    }

    private static int caught(Call call) {
        try {
            return call.answer();
        } catch (NoSuchElementException e) {
            return THROWS_NO_SUCH;
        } catch (IllegalArgumentException e) {
            return THROWS_ILLEGAL;
        }
    }

    private boolean same(String label, Call a, Call b) {
        int got = caught(a);
        int want = caught(b);
        log.add(label + " -> " + got);
        if (got == want) {
            return true;
        }
        wrong++;
        System.out.println("unlike the model, due " + want + ":");
        log.forEach(System.out::println);
        return false;
    }

    private void run(long seed) {
        log.add("seed " + seed);
        int texts = 1 + random.nextInt(2);
        for (int t = 0; t < texts; t++) {
            if (!tellText()) {
                return;
            }
            int calls = random.nextInt(60);
            for (int i = 0; i < calls; i++) {
                if (!oneCall()) {
                    return;
                }
            }
            if (!compareAll()) {
                return;
            }
        }
    }

    private boolean tellText() {
        for (int tries = 0; tries < 4; tries++) {
            String text = random.nextInt(3) == 0 ? spoilt(text()) : text();
            if (text.length() > 700) {
                text = text.substring(0, 700);
            }
            final int n = text.length();
            log.add(text);
            for (int i = 0; i < n; i += 20) {
                int[] five = new int[5];
                for (int j = 0; j < 20; j++) {
                    five[j / 4] = five[j / 4] << 8 | (i + j < n ? text.charAt(i + j) : ' ') & 255;
                }
                if (!same("feed", () -> real.feed(five[0], five[1], five[2], five[3], five[4]), () -> model.feed(five))) {
                    return false;
                }
            }
            int asked = random.nextInt(20) == 0 ? n + 30 : n;
            if (!same("tables " + asked, () -> real.tables(asked), () -> model.tables(asked))
                    || !same("fault", real::fault, () -> model.faultPlace)
                    || !same("count 11", () -> real.count(11), () -> model.count(11))) {
                return false;
            }
        }
        return true;
    }

    private int below(int n) {
        return random.nextInt(n);
    }

    private String pick(String... of) {
        return of[below(of.length)];
    }

    private String name() {
        return String.valueOf((char) ('a' + below(6)));
    }

    private String type() {
        return pick("number", "digit", "even", "flag");
    }

    private String cellOf(int type) {
        if (below(5) == 0) {
            return "_";
        }
        int n = switch (type) {
            case 1 -> below(10);
            case 2 -> 2 * (below(9) - 4);
            case 3 -> below(2);
            default -> below(3) == 0 ? below(1999) - 999 : below(13) - 4;
        };
        return n < 0 ? "-" + -n : "" + n;
    }

    private String text() {
        StringBuilder s = new StringBuilder();
        int columns = calm ? 1 + below(4) : below(6);
        int[] types = new int[9];
        for (int c = 0; c < columns; c++) {
            types[c] = below(4);
            s.append("column ").append((char) ('a' + c)).append(' ')
                    .append(List.of("number", "digit", "even", "flag").get(types[c])).append(below(4) == 0 ? " ;\n" : ";");
        }
        int rows = calm ? 1 + below(3) : below(4) == 0 ? below(14) : below(5);
        List<Integer> keys = new ArrayList<>();
        for (int r = 0; r < rows; r++) {
            int key = below(20);
            if (keys.contains(key)) {
                continue;
            }
            keys.add(key);
            s.append("row ").append(key);
            for (int c = 0; c < columns; c++) {
                s.append(' ').append(cellOf(types[c]));
            }
            s.append(';');
        }
        int demands = columns < 2 ? 0 : below(5);
        for (int d = 0; d < demands; d++) {
            int f = below(columns);
            s.append(pick("unique " + f, "needed " + f, "below " + f + " " + (f + 1) % columns)).append(';');
        }
        int edits = calm ? 10 + below(30) : below(4) == 0 ? 0 : below(16);
        Model shadow = new Model();
        for (int e = 0; e < edits; e++) {
            String line = pick("left ", "right ") + editText(keys, columns) + ";";
            if (s.length() + line.length() <= 700 && (below(40) == 0 || reads(shadow, s + line))) {
                s.append(line);
            }
        }
        return s.toString();
    }

    private static boolean reads(Model shadow, String text) {
        for (int i = 0; i < text.length(); i++) {
            shadow.tape.add((byte) text.charAt(i));
        }
        return shadow.tables(text.length()) == 0;
    }

    private String editText(List<Integer> keys, int columns) {
        int key = keys.isEmpty() || below(4) == 0 ? below(20) : keys.get(below(keys.size()));
        int column = columns == 0 || below(4) == 0 ? below(9) : below(columns);
        if (calm && below(10) != 0) {
            return pick("set " + key + " " + column + " " + cellOf(below(4)), "set " + key + " " + column + " " + cellOf(1),
                    "rename " + column + " " + (char) ('a' + below(8)), "retype " + column + " " + type(),
                    "add " + (char) ('a' + below(8)) + " " + pick("number", "digit"));
        }
        return pick("set " + key + " " + column + " " + cellOf(below(4)), "set " + key + " " + column + " " + cellOf(3),
                "insert " + key, "delete " + key, "rename " + column + " " + (char) ('a' + below(10)),
                "retype " + column + " " + type(), "add " + (char) ('a' + below(10)) + " " + type(), "drop " + column);
    }

    private String spoilt(String text) {
        StringBuilder s = new StringBuilder(text);
        int times = 1 + below(3);
        for (int i = 0; i < times; i++) {
            int at = below(s.length() + 1);
            String bit = pick(";", "-", "_", " ", "\n", "0", "7", "20", "1000", "12345", "column", "row ", "unique 0;", "left ", "right drop 0;",
                    "below 0 0;", "a", "z", "!", "\t", "\u00e9", "A", "row 3", "column x flag;", "-5", "needed 4;", "set", "99999");
            switch (below(4)) {
                case 0:
                    s.insert(at, bit);
                    break;
                case 1:
                    s.delete(at, Math.min(s.length(), at + 1 + below(4)));
                    break;
                case 2:
                    int end = s.indexOf(";", at);
                    s.insert(end < 0 ? s.length() : end + 1, bit);
                    break;
                default:
                    if (below(3) == 0) {
                        s.setLength(at);
                    } else {
                        s.replace(at, Math.min(s.length(), at + bit.length()), bit);
                    }
            }
        }
        return s.toString();
    }

    private int near(int n) {
        return below(30) == 0 ? pickInt(-1, n, Integer.MIN_VALUE, Integer.MAX_VALUE, 9999) : below(n);
    }

    private int pickInt(int... of) {
        return of[below(of.length)];
    }

    private int number() {
        return below(6) == 0 ? pickInt(9999, 999, -999, 1000, -1000, 10, -1) : below(12) - 2;
    }

    private int usedKey() {
        List<Integer> keys = new ArrayList<>(model.st.base.rows.keySet());
        return keys.isEmpty() || below(4) == 0 ? near(20) : keys.get(below(keys.size()));
    }

    private int usedColumn() {
        int n = model.st.base.names.size();
        return n == 0 || below(3) == 0 ? near(9) : below(n);
    }

    private boolean oneCall() {
        int kind = below(100);
        if (kind < 30) {
            return handCall();
        }
        if (kind < 50) {
            return settleCall();
        }
        if (kind < 53) {
            return same("flip", () -> { real.flip(); return 0; }, () -> { model.flip(); return 0; });
        }
        if (kind < (calm ? 54 : 57)) {
            return same("commit", real::commit, model::commit);
        }
        if (kind < 63) {
            return same("undo", real::undo, model::undo);
        }
        if (kind < 65) {
            return same("image", () -> { real.image(); return 0; }, () -> { model.image(); return 0; });
        }
        if (kind < 67) {
            return same("restore", () -> real.restore() ? 1 : 0, () -> model.restore() ? 1 : 0);
        }
        return kind < 80 ? questionCall() : lookCall();
    }

    private boolean handCall() {
        int side = below(40) == 0 ? pickInt(-1, 2) : below(2);
        int key = usedKey();
        int column = usedColumn();
        int n = number();
        int name = near(26) % 10 == 3 ? near(26) : near(8);
        int type = near(4);
        switch (calm && below(6) != 0 ? pickInt(0, 0, 0, 4, 5, 6) : below(8)) {
            case 0:
            case 1:
                return same("set " + side + " " + key + " " + column + " " + n,
                        () -> real.set(side, key, column, n) ? 0 : -1, () -> model.byHand('s', side, key, column, n));
            case 2:
                return same("insert " + side + " " + key, () -> real.insert(side, key) ? 0 : -1, () -> model.byHand('i', side, key, 0, 0));
            case 3:
                return same("delete " + side + " " + key, () -> real.delete(side, key) ? 0 : -1, () -> model.byHand('d', side, key, 0, 0));
            case 4:
                return same("rename " + side + " " + column + " " + name,
                        () -> real.rename(side, column, name) ? 0 : -1, () -> model.byHand('n', side, column, name, 0));
            case 5:
                return same("retype " + side + " " + column + " " + type,
                        () -> real.retype(side, column, type) ? 0 : -1, () -> model.byHand('t', side, column, type, 0));
            case 6:
                return same("add " + side + " " + name + " " + type, () -> real.add(side, name, type), () -> model.byHand('a', side, name, type, 0));
            default:
                return same("drop " + side + " " + column, () -> real.drop(side, column) ? 0 : -1, () -> model.byHand('p', side, column, 0, 0));
        }
    }

    private boolean settleCall() {
        List<List<Integer>> open = Model.merge(model.st).conflicts;
        List<List<Integer>> had = new ArrayList<>(model.st.choices.keySet());
        boolean back = below(4) == 0;
        List<List<Integer>> of = back ? had : open;
        int kind = near(7);
        int a = below(9);
        int b = below(3) == 0 ? below(9) : 0;
        if (!of.isEmpty() && below(8) != 0) {
            List<Integer> id = of.get(below(of.size()));
            kind = id.get(0);
            a = id.get(1);
            b = id.get(2);
        }
        int k = kind;
        int x = a;
        int y = b;
        int choice = below(20) == 0 ? near(5) - 1 : below(3);
        if (back) {
            return same("unsettle " + k + " " + x + " " + y, () -> real.unsettle(k, x, y), () -> model.unsettle(k, x, y));
        }
        return same("settle " + k + " " + x + " " + y + " " + choice, () -> real.settle(k, x, y, choice), () -> model.settle(k, x, y, choice));
    }

    private boolean questionCall() {
        int side = near(2);
        int what = near(3);
        switch (below(7)) {
            case 0:
                return same("difference", () -> real.difference(side, what), () -> model.difference(side, what));
            case 1:
                int choice = near(3);
                return same("along " + choice + " " + what, () -> real.along(choice, what), () -> model.along(choice, what));
            case 2:
                return below(3) > 0 || same("alone " + side + " " + what, () -> real.alone(side, what), () -> model.alone(side, what));
            case 3:
                return see();
            case 4:
                return below(5) > 0 || same("forget", () -> { real.forget(); return 0; }, () -> { model.seen.clear(); return 0; });
            case 5:
                return below(3) > 0 || same("edited " + what, () -> real.edited(what), () -> model.edited(what));
            default:
                int seed = random.nextInt();
                int n = near(61);
                return same("years " + seed + " " + n + " " + what, () -> real.years(seed, n, what), () -> model.years(seed, n, what));
        }
    }

    private boolean see() {
        int key = usedKey();
        int column = usedColumn();
        Model.Tab merged = Model.merge(model.st).tab;
        int n = merged.has(key, column) && below(4) != 0 ? merged.get(key, column) : number();
        return same("see " + key + " " + column + " " + n, () -> real.see(key, column, n), () -> model.see(key, column, n));
    }

    private boolean lookCall() {
        int table = near(4);
        int key = usedKey();
        int column = usedColumn();
        int what = near(2);
        int i = near(5);
        int part = near(6);
        switch (below(6)) {
            case 0:
                int n = near(15);
                return same("count " + n, () -> real.count(n), () -> model.count(n));
            case 1:
                return same("table " + table + " " + what, () -> real.table(table, what), () -> model.table(table, what));
            case 2:
                return same("column " + table + " " + column + " " + what, () -> real.column(table, column, what), () -> model.column(table, column, what));
            case 3:
                return same("cell " + table + " " + key + " " + column, () -> real.cell(table, key, column), () -> model.cell(table, key, column));
            case 4:
                return same("whose " + key + " " + column, () -> real.whose(key, column), () -> model.whose(key, column));
            default:
                return same("conflict " + i + " " + part, () -> real.conflict(i, part), () -> model.conflict(i, part));
        }
    }

    private boolean compareAll() {
        for (int i = 0; i < 15; i++) {
            int n = i;
            if (!same("count " + n, () -> real.count(n), () -> model.count(n))) {
                return false;
            }
        }
        for (int t = 0; t < 4; t++) {
            int table = t;
            for (int k = 0; k < 20; k++) {
                for (int c = 0; c < 9; c++) {
                    int key = k;
                    int column = c;
                    if (!same("cell " + table + " " + key + " " + column, () -> real.cell(table, key, column), () -> model.cell(table, key, column))
                            || table == 3 && !same("whose " + key + " " + column, () -> real.whose(key, column), () -> model.whose(key, column))
                            || k < 2 && !same("column " + table + " " + column + " " + key,
                                    () -> real.column(table, column, key), () -> model.column(table, column, key))) {
                        return false;
                    }
                }
            }
        }
        int conflicts = model.count(5);
        for (int i = 0; i <= conflicts; i++) {
            for (int w = 0; w < 6; w++) {
                int at = i;
                int what = w;
                if (!same("conflict " + at + " " + what, () -> real.conflict(at, what), () -> model.conflict(at, what))) {
                    return false;
                }
            }
        }
        for (int s = 0; s < 2; s++) {
            for (int w = 0; w < 7; w++) {
                int side = s;
                int what = w;
                if (!same("difference " + side + " " + what, () -> real.difference(side, what), () -> model.difference(side, what))) {
                    return false;
                }
            }
        }
        return true;
    }
}
