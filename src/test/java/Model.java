import java.util.ArrayList;
import java.util.Arrays;
import java.util.LinkedHashMap;
import java.util.LinkedHashSet;
import java.util.List;
import java.util.Map;
import java.util.NoSuchElementException;
import java.util.Set;
import java.util.TreeMap;

/**
 * A second reading of the document, with maps and without any care for cost, that ModelTest holds against the class.
 * It shares no code with it, so that a slip in one of them shows.
 */
final class Model {
    static final int NONE = -1;
    static final int EMPTY = 9999;

    static final class Tab {
        final TreeMap<Integer, Integer> names = new TreeMap<>();
        final TreeMap<Integer, Integer> types = new TreeMap<>();
        final TreeMap<Integer, TreeMap<Integer, Integer>> rows = new TreeMap<>();

        Tab copy() {
            Tab t = new Tab();
            t.names.putAll(names);
            t.types.putAll(types);
            rows.forEach((k, r) -> t.rows.put(k, new TreeMap<>(r)));
            return t;
        }

        boolean has(int key, int column) {
            return rows.containsKey(key) && names.containsKey(column);
        }

        int get(int key, int column) {
            return has(key, column) ? rows.get(key).get(column) : EMPTY;
        }
    }

    static final class St {
        Tab base = new Tab();
        Tab[] sides = {new Tab(), new Tab()};
        int[] had = {0, 0};
        List<List<Integer>> demands = new ArrayList<>();
        Map<List<Integer>, Integer> choices = new LinkedHashMap<>();

        St copy() {
            St s = new St();
            s.base = base.copy();
            s.sides = new Tab[] {sides[0].copy(), sides[1].copy()};
            s.had = had.clone();
            s.demands = new ArrayList<>(demands);
            s.choices = new LinkedHashMap<>(choices);
            return s;
        }

        boolean changed(int side, int key, int column) {
            Tab t = sides[side];
            return t.has(key, column) && t.get(key, column) != cast(base.get(key, column), t.types.get(column));
        }
    }

    static final class Result {
        final Tab tab = new Tab();
        final Map<List<Integer>, Integer> whose = new LinkedHashMap<>();
        final List<List<Integer>> conflicts = new ArrayList<>();
        final List<int[]> bySides = new ArrayList<>();
        final Set<List<Integer>> came = new LinkedHashSet<>();
        final Map<Integer, Integer> twins = new LinkedHashMap<>();
    }

    static boolean holds(int type, int n) {
        if (n == EMPTY) {
            return true;
        }
        return switch (type) {
            case 0 -> n >= -999 && n <= 999;
            case 1 -> n >= 0 && n <= 9;
            case 2 -> n >= -998 && n <= 998 && n % 2 == 0;
            default -> n == 0 || n == 1;
        };
    }

    static int cast(int n, int type) {
        if (n == EMPTY) {
            return n;
        }
        return switch (type) {
            case 0 -> n;
            case 1 -> Integer.parseInt(String.valueOf(n).substring(String.valueOf(n).length() - 1));
            case 2 -> n % 2 == 0 ? n : n > 0 ? n - 1 : n + 1;
            default -> n == 0 ? 0 : 1;
        };
    }

    St st = new St();
    final List<St> acts = new ArrayList<>();
    final List<int[]> seen = new ArrayList<>();
    final List<Byte> tape = new ArrayList<>();
    int faultPlace = NONE;
    final int[] status = new int[3];
    St imageSt;
    List<St> imageActs;
    List<int[]> imageSeen;

    // ---- merging

    private static int ask(St s, Result r, int kind, int a, int b, int l, int rr) {
        List<Integer> id = List.of(kind, a, b);
        r.came.add(id);
        Integer choice = s.choices.get(id);
        if (choice != null) {
            return choice;
        }
        r.conflicts.add(id);
        r.bySides.add(new int[] {l, rr});
        return NONE;
    }

    static Result merge(St s) {
        Result r = new Result();
        for (int c : s.base.names.keySet()) {
            baseColumn(s, r, c);
        }
        for (int c = 5; c <= 6; c++) {
            if (s.sides[0].names.containsKey(c)) {
                r.tab.names.put(c, s.sides[0].names.get(c));
                r.tab.types.put(c, s.sides[0].types.get(c));
            }
        }
        for (int c = 7; c <= 8; c++) {
            if (!s.sides[1].names.containsKey(c)) {
                continue;
            }
            int twin = NONE;
            for (int d = 6; d >= 5; d--) {
                if (s.sides[0].names.containsKey(d) && !r.twins.containsKey(d)
                        && s.sides[0].names.get(d).equals(s.sides[1].names.get(c))
                        && s.sides[0].types.get(d).equals(s.sides[1].types.get(c))) {
                    twin = d;
                }
            }
            if (twin != NONE) {
                r.twins.put(twin, c);
            } else {
                r.tab.names.put(c, s.sides[1].names.get(c));
                r.tab.types.put(c, s.sides[1].types.get(c));
            }
        }
        for (int c : new ArrayList<>(r.tab.names.keySet())) {
            if (!r.tab.names.headMap(c).containsValue(r.tab.names.get(c))) {
                continue;
            }
            int choice = ask(s, r, 3, c, 0, NONE, NONE);
            if (choice == 0) {
                int n = 0;
                while (r.tab.names.containsValue(n)) {
                    n++;
                }
                r.tab.names.put(c, n);
            } else if (choice == 1) {
                r.tab.names.remove(c);
                r.tab.types.remove(c);
            }
        }
        for (int k = 0; k < 20; k++) {
            row(s, r, k);
        }
        for (int k : r.tab.rows.keySet()) {
            for (int c : r.tab.names.keySet()) {
                oneCell(s, r, k, c);
            }
        }
        for (int d = 0; d < s.demands.size(); d++) {
            demand(s, r, d);
        }
        return r;
    }

    private static void baseColumn(St s, Result r, int c) {
        Tab l = s.sides[0];
        Tab rt = s.sides[1];
        boolean inL = l.names.containsKey(c);
        boolean inR = rt.names.containsKey(c);
        if (!inL && !inR) {
            return;
        }
        int bn = s.base.names.get(c);
        int bt = s.base.types.get(c);
        int ln = inL ? l.names.get(c) : bn;
        int rn = inR ? rt.names.get(c) : bn;
        int lt = inL ? l.types.get(c) : bt;
        int rtt = inR ? rt.types.get(c) : bt;
        if (inL != inR) {
            int side = inL ? 0 : 1;
            boolean any = ln != bn || rn != bn || lt != bt || rtt != bt;
            for (int k : s.sides[side].rows.keySet()) {
                any |= s.changed(side, k, c);
            }
            if (!any || ask(s, r, 0, c, 0, NONE, NONE) == 1) {
                return;
            }
        }
        int name = ln == rn ? ln : ln == bn ? rn : rn == bn ? ln : NONE;
        if (name == NONE) {
            int choice = ask(s, r, 1, c, 0, ln, rn);
            name = choice == 1 ? ln : choice == 2 ? rn : bn;
        }
        int type = lt == rtt ? lt : lt == bt ? rtt : rtt == bt ? lt : NONE;
        if (type == NONE) {
            Set<Integer> both = new LinkedHashSet<>(List.of(lt, rtt));
            if (both.equals(Set.of(3, 1))) {
                type = 3;
            } else if (both.remove(0)) {
                type = both.iterator().next();
            } else {
                int choice = ask(s, r, 2, c, 0, lt, rtt);
                type = choice == 1 ? lt : choice == 2 ? rtt : bt;
            }
        }
        r.tab.names.put(c, name);
        r.tab.types.put(c, type);
    }

    private static void row(St s, Result r, int k) {
        boolean inB = s.base.rows.containsKey(k);
        boolean inL = s.sides[0].rows.containsKey(k);
        boolean inR = s.sides[1].rows.containsKey(k);
        if (!inL && !inR) {
            return;
        }
        if (inB && !(inL && inR)) {
            int side = inL ? 0 : 1;
            boolean any = false;
            for (int c : s.sides[side].names.keySet()) {
                any |= s.changed(side, k, c);
            }
            if (!any || ask(s, r, 4, k, 0, NONE, NONE) == 1) {
                return;
            }
        }
        r.tab.rows.put(k, new TreeMap<>());
    }

    private static void oneCell(St s, Result r, int k, int c) {
        int type = r.tab.types.get(c);
        int rc = r.twins.getOrDefault(c, c);
        int b = cast(s.base.get(k, c), type);
        int number = b;
        int whose = 0;
        boolean l = s.changed(0, k, c);
        boolean rr = s.changed(1, k, rc);
        int ln = cast(s.sides[0].get(k, c), type);
        int rn = cast(s.sides[1].get(k, rc), type);
        if (l && !rr) {
            number = ln;
            whose = 1;
        } else if (rr && !l) {
            number = rn;
            whose = 2;
        } else if (l && ln == rn) {
            number = ln;
            whose = 3;
        } else if (l) {
            int choice = ask(s, r, 5, k, c, ln, rn);
            number = choice == 1 ? ln : choice == 2 ? rn : b;
            whose = choice == NONE ? 0 : choice;
        }
        r.tab.rows.get(k).put(c, number);
        r.whose.put(List.of(k, c), whose);
    }

    private static void demand(St s, Result r, int d) {
        List<Integer> dm = s.demands.get(d);
        int kind = dm.get(0);
        int f = dm.get(1);
        int g = dm.get(2);
        if (!r.tab.names.containsKey(f) || kind == 2 && !r.tab.names.containsKey(g)) {
            return;
        }
        for (int k : new ArrayList<>(r.tab.rows.keySet())) {
            int n = r.tab.get(k, f);
            boolean broken;
            int target = f;
            if (kind == 0) {
                boolean like = false;
                for (int other : r.tab.rows.headMap(k).keySet()) {
                    like |= r.tab.get(other, f) == n;
                }
                broken = n != EMPTY && like;
            } else if (kind == 1) {
                broken = n == EMPTY;
            } else {
                int m = r.tab.get(k, g);
                target = g;
                broken = n != EMPTY && m != EMPTY && !(n < m);
            }
            if (!broken) {
                continue;
            }
            int choice = ask(s, r, 6, d, k, NONE, NONE);
            if (choice == 0) {
                r.tab.rows.get(k).put(target, kind == 1 ? 0 : EMPTY);
                r.whose.put(List.of(k, target), 4);
            } else if (choice == 1) {
                r.tab.rows.remove(k);
            }
        }
    }

    // ---- edits: 's'et, 'i'nsert, 'd'elete, re'n'ame, re't'ype, 'a'dd, dro'p'

    static int edit(St s, char what, int side, int a, int b, int c) {
        Tab t = s.sides[side];
        switch (what) {
            case 's':
                if (!t.has(a, b) || t.get(a, b) == c || !holds(t.types.get(b), c)) {
                    return NONE;
                }
                t.rows.get(a).put(b, c);
                return 0;
            case 'i':
                if (a < 0 || a > 19 || t.rows.containsKey(a) || t.rows.size() > 11) {
                    return NONE;
                }
                t.rows.put(a, new TreeMap<>());
                for (int col : t.names.keySet()) {
                    t.rows.get(a).put(col, EMPTY);
                }
                return 0;
            case 'd':
                return t.rows.remove(a) == null ? NONE : 0;
            case 'n':
                if (!t.names.containsKey(a) || b < 0 || b > 25 || t.names.containsValue(b)) {
                    return NONE;
                }
                t.names.put(a, b);
                return 0;
            case 't':
                if (!t.names.containsKey(a) || b < 0 || b > 3 || t.types.get(a) == b) {
                    return NONE;
                }
                t.types.put(a, b);
                for (TreeMap<Integer, Integer> row : t.rows.values()) {
                    row.put(a, cast(row.get(a), b));
                }
                return 0;
            case 'a':
                if (s.had[side] == 2 || a < 0 || a > 25 || b < 0 || b > 3 || t.names.containsValue(a)) {
                    return NONE;
                }
                int number = 5 + 2 * side + s.had[side]++;
                t.names.put(number, a);
                t.types.put(number, b);
                for (TreeMap<Integer, Integer> row : t.rows.values()) {
                    row.put(number, EMPTY);
                }
                return number;
            default:
                if (!t.names.containsKey(a)) {
                    return NONE;
                }
                t.names.remove(a);
                t.types.remove(a);
                for (TreeMap<Integer, Integer> row : t.rows.values()) {
                    row.remove(a);
                }
                return 0;
        }
    }

    // ---- the text

    private record Token(int at, String text) {
    }

    private static final class Fault extends RuntimeException {
        private static final long serialVersionUID = 1L;
        final int code;
        final int at;

        Fault(int code, int at) {
            this.code = code;
            this.at = at;
        }
    }

    private List<Token> tokens;
    private int next;
    private St told;

    private static List<Token> split(String s) {
        List<Token> out = new ArrayList<>();
        java.util.regex.Matcher m = java.util.regex.Pattern.compile("[ \\n]+|[a-z]+|[0-9]+|.", java.util.regex.Pattern.DOTALL).matcher(s);
        while (m.find()) {
            if (m.group().charAt(0) != ' ' && m.group().charAt(0) != '\n') {
                out.add(new Token(m.start(), m.group()));
            }
        }
        out.add(new Token(s.length(), ""));
        return out;
    }

    private Token look() {
        return tokens.get(next);
    }

    private String want(String regex) {
        Token t = look();
        if (!t.text.matches(regex)) {
            throw new Fault(1, t.at);
        }
        next++;
        return t.text;
    }

    private int number(int most) {
        Token t = look();
        String s = want("[0-9]+");
        if (s.length() > 4 || Integer.parseInt(s) > most) {
            throw new Fault(2, t.at);
        }
        return Integer.parseInt(s);
    }

    private int cellToken() {
        if (look().text.equals("_")) {
            next++;
            return EMPTY;
        }
        int sign = 1;
        if (look().text.equals("-")) {
            next++;
            sign = -1;
        }
        return sign * number(999);
    }

    private int typeToken() {
        return List.of("number", "digit", "even", "flag").indexOf(want("number|digit|even|flag"));
    }

    private void parse(String s) {
        tokens = split(s);
        next = 0;
        told = new St();
        boolean rows = false;
        boolean edits = false;
        while (!look().text.isEmpty()) {
            Token head = look();
            String w = want("column|row|unique|needed|below|left|right");
            boolean isEdit = w.equals("left") || w.equals("right");
            if (edits && !isEdit || rows && w.equals("column")) {
                throw new Fault(1, head.at);
            }
            if (isEdit) {
                if (!edits) {
                    told.sides = new Tab[] {told.base.copy(), told.base.copy()};
                }
                edits = true;
                lineOfEdit(head, w.equals("left") ? 0 : 1);
            } else if (w.equals("column")) {
                lineOfColumn(head);
            } else if (w.equals("row")) {
                rows = true;
                lineOfRow(head);
            } else {
                lineOfDemand(head, List.of("unique", "needed", "below").indexOf(w));
            }
        }
        if (!edits) {
            told.sides = new Tab[] {told.base.copy(), told.base.copy()};
        }
    }

    private void lineOfColumn(Token head) {
        int c = told.base.names.size();
        if (c == 5) {
            throw new Fault(2, head.at);
        }
        Token t = look();
        int name = want("[a-z]").charAt(0) - 'a';
        if (told.base.names.containsValue(name)) {
            throw new Fault(4, t.at);
        }
        int type = typeToken();
        want(";");
        told.base.names.put(c, name);
        told.base.types.put(c, type);
    }

    private void lineOfRow(Token head) {
        if (told.base.rows.size() == 12) {
            throw new Fault(2, head.at);
        }
        Token t = look();
        int key = number(19);
        if (told.base.rows.containsKey(key)) {
            throw new Fault(4, t.at);
        }
        TreeMap<Integer, Integer> row = new TreeMap<>();
        for (int c : told.base.names.keySet()) {
            Token first = look();
            int n = cellToken();
            if (!holds(told.base.types.get(c), n)) {
                throw new Fault(5, first.at);
            }
            row.put(c, n);
        }
        want(";");
        told.base.rows.put(key, row);
    }

    private void lineOfDemand(Token head, int kind) {
        if (told.demands.size() == 4) {
            throw new Fault(2, head.at);
        }
        int[] columns = {0, 0};
        for (int i = 0; i < (kind == 2 ? 2 : 1); i++) {
            Token t = look();
            columns[i] = number(9999);
            if (columns[i] >= told.base.names.size() || i == 1 && columns[0] == columns[1]) {
                throw new Fault(3, t.at);
            }
        }
        want(";");
        told.demands.add(List.of(kind, columns[0], columns[1]));
    }

    private void lineOfEdit(Token head, int side) {
        String w = want("set|insert|delete|rename|retype|add|drop");
        char what;
        int a = 0;
        int b = 0;
        int c = 0;
        switch (w) {
            case "set":
                what = 's';
                a = number(19);
                b = number(9999);
                c = cellToken();
                break;
            case "insert":
            case "delete":
                what = w.charAt(0);
                a = number(19);
                break;
            case "rename":
                what = 'n';
                a = number(9999);
                b = want("[a-z]").charAt(0) - 'a';
                break;
            case "retype":
                what = 't';
                a = number(9999);
                b = typeToken();
                break;
            case "add":
                what = 'a';
                a = want("[a-z]").charAt(0) - 'a';
                b = typeToken();
                break;
            default:
                what = 'p';
                a = number(9999);
        }
        want(";");
        if (edit(told, what, side, a, b, c) == NONE) {
            throw new Fault(6, head.at);
        }
    }

    // ---- the face

    int feed(int... numbers) {
        if (tape.size() + 20 > 700) {
            return NONE;
        }
        for (int n : numbers) {
            for (int i = 3; i >= 0; i--) {
                tape.add((byte) (n >>> 8 * i));
            }
        }
        return tape.size();
    }

    int tables(int n) {
        if (n < 0 || n > tape.size()) {
            throw new IllegalArgumentException();
        }
        StringBuilder s = new StringBuilder();
        for (int i = 0; i < n; i++) {
            s.append((char) (tape.get(i) & 255));
        }
        tape.clear();
        try {
            parse(s.toString());
        } catch (Fault f) {
            faultPlace = f.at;
            status[0]++;
            return f.code;
        }
        faultPlace = NONE;
        st = told;
        acts.clear();
        seen.clear();
        imageSt = null;
        return 0;
    }

    int count(int what) {
        Result r = merge(st);
        switch (what) {
            case 0: return st.base.names.size();
            case 1: return st.base.rows.size();
            case 2: return st.demands.size();
            case 3: return r.tab.names.size();
            case 4: return r.tab.rows.size();
            case 5: return r.conflicts.size();
            case 6: return st.choices.size();
            case 7: return (int) st.choices.keySet().stream().filter(i -> !r.came.contains(i)).count();
            case 8: return (int) r.tab.rows.values().stream().flatMap(x -> x.values().stream()).filter(x -> x != EMPTY).count();
            case 9: return acts.size();
            case 10: return seen.size();
            case 11: return tape.size();
            case 12: case 13: case 14: return status[what - 12];
            default: throw new NoSuchElementException();
        }
    }

    private Tab tab(int table) {
        if (table < 0 || table > 3) {
            throw new NoSuchElementException();
        }
        return table < 2 ? st.sides[table] : table == 2 ? st.base : merge(st).tab;
    }

    int table(int table, int what) {
        Tab t = tab(table);
        if (what != 0 && what != 1) {
            throw new NoSuchElementException();
        }
        int bits = 0;
        for (int i : what == 0 ? t.names.keySet() : t.rows.keySet()) {
            bits |= 1 << i;
        }
        return bits;
    }

    int column(int table, int column, int what) {
        Tab t = tab(table);
        if (!t.names.containsKey(column) || what != 0 && what != 1) {
            throw new NoSuchElementException();
        }
        return what == 0 ? t.names.get(column) : t.types.get(column);
    }

    int cell(int table, int key, int column) {
        Tab t = tab(table);
        if (!t.has(key, column)) {
            throw new NoSuchElementException();
        }
        return t.get(key, column);
    }

    int whose(int key, int column) {
        Result r = merge(st);
        if (!r.tab.has(key, column)) {
            throw new NoSuchElementException();
        }
        return r.whose.get(List.of(key, column));
    }

    private static boolean threefold(int kind) {
        return kind == 1 || kind == 2 || kind == 5;
    }

    int conflict(int i, int what) {
        Result r = merge(st);
        if (i < 0 || i >= r.conflicts.size() || what < 0 || what > 5) {
            throw new NoSuchElementException();
        }
        if (what < 3) {
            return r.conflicts.get(i).get(what);
        }
        return what < 5 ? r.bySides.get(i)[what - 3] : threefold(r.conflicts.get(i).get(0)) ? 3 : 2;
    }

    private void keep(St before) {
        acts.add(before);
        if (acts.size() > 30) {
            acts.remove(0);
        }
    }

    int byHand(char what, int side, int a, int b, int c) {
        if (side != 0 && side != 1) {
            throw new NoSuchElementException();
        }
        St before = st.copy();
        int answer = edit(st, what, side, a, b, c);
        if (answer == NONE) {
            status[1]++;
        } else {
            keep(before);
        }
        return answer;
    }

    int settle(int kind, int a, int b, int choice) {
        List<Integer> id = List.of(kind, a, b);
        if (!merge(st).conflicts.contains(id) || choice < 0 || choice >= (threefold(kind) ? 3 : 2)) {
            status[1]++;
            return NONE;
        }
        keep(st.copy());
        st.choices.put(id, choice);
        return merge(st).conflicts.size();
    }

    int unsettle(int kind, int a, int b) {
        St before = st.copy();
        Integer was = st.choices.remove(List.of(kind, a, b));
        if (was == null) {
            status[1]++;
            return NONE;
        }
        keep(before);
        return was;
    }

    private static int about(int column) {
        return column < 5 ? column : column < 7 ? column + 2 : column - 2;
    }

    private static Tab about(Tab t) {
        Tab n = new Tab();
        t.names.forEach((c, v) -> n.names.put(about(c), v));
        t.types.forEach((c, v) -> n.types.put(about(c), v));
        t.rows.forEach((k, r) -> {
            n.rows.put(k, new TreeMap<>());
            r.forEach((c, v) -> n.rows.get(k).put(about(c), v));
        });
        return n;
    }

    void flip() {
        keep(st.copy());
        st.sides = new Tab[] {about(st.sides[1]), about(st.sides[0])};
        st.had = new int[] {st.had[1], st.had[0]};
        Map<List<Integer>, Integer> turned = new LinkedHashMap<>();
        st.choices.forEach((id, choice) -> {
            int kind = id.get(0);
            int a = kind <= 3 ? about(id.get(1)) : id.get(1);
            int b = kind == 5 ? about(id.get(2)) : id.get(2);
            turned.put(List.of(kind, a, b), threefold(kind) && choice > 0 ? 3 - choice : choice);
        });
        st.choices = turned;
    }

    int commit() {
        Result r = merge(st);
        if (!r.conflicts.isEmpty() || r.tab.names.size() > 5 || r.tab.rows.size() > 12) {
            status[1]++;
            return NONE;
        }
        keep(st.copy());
        St s = new St();
        List<Integer> order = new ArrayList<>(r.tab.names.keySet());
        for (int i = 0; i < order.size(); i++) {
            s.base.names.put(i, r.tab.names.get(order.get(i)));
            s.base.types.put(i, r.tab.types.get(order.get(i)));
        }
        r.tab.rows.forEach((k, row) -> {
            s.base.rows.put(k, new TreeMap<>());
            row.forEach((c, v) -> s.base.rows.get(k).put(order.indexOf(c), v));
        });
        for (List<Integer> d : st.demands) {
            int f = order.indexOf(d.get(1));
            int g = order.indexOf(d.get(2));
            if (f >= 0 && (d.get(0) != 2 || g >= 0)) {
                s.demands.add(List.of(d.get(0), f, g));
            }
        }
        s.sides = new Tab[] {s.base.copy(), s.base.copy()};
        st = s;
        return st.base.rows.size();
    }

    int undo() {
        if (acts.isEmpty()) {
            return NONE;
        }
        st = acts.remove(acts.size() - 1).copy();
        return acts.size();
    }

    int difference(int side, int what) {
        if (side < 0 || side > 1 || what < 0 || what > 6) {
            throw new NoSuchElementException();
        }
        Tab t = st.sides[side];
        int[] n = new int[7];
        for (int k : t.rows.keySet()) {
            n[1] += st.base.rows.containsKey(k) ? 0 : 1;
            for (int c : t.names.keySet()) {
                n[0] += st.base.has(k, c) && st.changed(side, k, c) ? 1 : 0;
            }
        }
        for (int k : st.base.rows.keySet()) {
            n[2] += t.rows.containsKey(k) ? 0 : 1;
        }
        for (int c : t.names.keySet()) {
            n[3] += st.base.names.containsKey(c) ? 0 : 1;
        }
        for (int c : st.base.names.keySet()) {
            boolean there = t.names.containsKey(c);
            n[4] += there ? 0 : 1;
            n[5] += there && !t.names.get(c).equals(st.base.names.get(c)) ? 1 : 0;
            n[6] += there && !t.types.get(c).equals(st.base.types.get(c)) ? 1 : 0;
        }
        return n[what];
    }

    int along(int choice, int what) {
        if (what < 0 || what > 2) {
            throw new NoSuchElementException();
        }
        if (choice < 0 || choice > 2) {
            throw new IllegalArgumentException();
        }
        St s = st.copy();
        int n = 0;
        while (n < 200 && !merge(s).conflicts.isEmpty()) {
            List<Integer> id = merge(s).conflicts.get(0);
            s.choices.put(id, threefold(id.get(0)) ? choice : Math.min(choice, 1));
            n++;
        }
        Result r = merge(s);
        return new int[] {n, r.conflicts.size(), r.tab.rows.size()}[what];
    }

    int alone(int side, int what) {
        if (side < 0 || side > 1 || what < 0 || what > 2) {
            throw new NoSuchElementException();
        }
        Result now = merge(st);
        List<int[]> picked = new ArrayList<>();
        for (int k : st.sides[side].rows.keySet()) {
            for (int c : st.sides[side].names.keySet()) {
                boolean merged = now.tab.names.containsKey(c);
                for (Map.Entry<Integer, Integer> twin : now.twins.entrySet()) {
                    merged |= side == 1 && twin.getValue() == c && now.tab.names.containsKey(twin.getKey());
                }
                if (st.changed(side, k, c) && merged && now.tab.rows.containsKey(k) && picked.size() < 10) {
                    picked.add(new int[] {k, c});
                }
            }
        }
        int[] best = null;
        for (int bits = (1 << picked.size()) - 1; bits >= 0; bits--) {
            St s = st.copy();
            for (int i = 0; i < picked.size(); i++) {
                if ((bits & 1 << i) == 0) {
                    int k = picked.get(i)[0];
                    int c = picked.get(i)[1];
                    s.sides[side].rows.get(k).put(c, cast(st.base.get(k, c), s.sides[side].types.get(c)));
                }
            }
            int[] one = {merge(s).conflicts.size(), Integer.bitCount(bits), bits};
            if (best == null || one[0] < best[0] || one[0] == best[0] && one[1] >= best[1]) {
                best = one;
            }
        }
        return best[what];
    }

    int see(int key, int column, int number) {
        if (seen.size() == 8 || key < 0 || key > 19 || column < 0 || column > 8
                || number != EMPTY && (number < -999 || number > 999)) {
            status[2]++;
            return NONE;
        }
        seen.add(new int[] {key, column, number});
        return seen.size();
    }

    private boolean allSo(Result r) {
        return seen.stream().allMatch(x -> r.tab.has(x[0], x[1]) && r.tab.get(x[0], x[1]) == x[2]);
    }

    int edited(int what) {
        if (what < 0 || what > 2) {
            throw new NoSuchElementException();
        }
        int ways = 0;
        int first = NONE;
        for (int k : st.base.rows.keySet()) {
            for (int c : st.base.names.keySet()) {
                for (int n = -9; n <= 9; n++) {
                    St s = st.copy();
                    if (edit(s, 's', 1, k, c, n) != NONE && allSo(merge(s))) {
                        ways++;
                        first = first == NONE ? 1000 * k + 100 * c + n + 50 : first;
                    }
                }
            }
        }
        return new int[] {ways, first, allSo(merge(st)) ? 1 : 0}[what];
    }

    private int seed;

    private int draw(int n) {
        seed = seed * 1103515245 + 12345;
        return (seed >>> 16 & 32767) % n;
    }

    int years(int firstSeed, int n, int what) {
        if (what < 0 || what > 2) {
            throw new NoSuchElementException();
        }
        if (n < 0 || n > 60) {
            throw new IllegalArgumentException();
        }
        St s = st.copy();
        seed = firstSeed;
        int done = 0;
        for (int i = 0; i < n; i++) {
            int side = draw(2);
            int which = draw(4);
            int answer;
            if (which == 3) {
                int c = draw(9);
                int t = draw(4);
                answer = edit(s, 't', side, c, t, 0);
            } else {
                int k = draw(20);
                int c = which == 0 ? draw(9) : 0;
                int v = which == 0 ? draw(10) : 0;
                answer = edit(s, "sid".charAt(which), side, k, c, v);
            }
            done += answer == NONE ? 0 : 1;
        }
        Result r = merge(s);
        return new int[] {done, r.conflicts.size(), r.tab.rows.size()}[what];
    }

    void image() {
        imageSt = st.copy();
        imageActs = new ArrayList<>(acts);
        imageSeen = new ArrayList<>(seen);
    }

    boolean restore() {
        if (imageSt == null) {
            return false;
        }
        st = imageSt.copy();
        acts.clear();
        acts.addAll(imageActs);
        seen.clear();
        seen.addAll(imageSeen);
        return true;
    }

    @Override
    public String toString() {
        return Arrays.toString(status);
    }
}
