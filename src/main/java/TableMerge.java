import java.util.Arrays;
import java.util.NoSuchElementException;

/**
 * A merge of three tables by keys: a base and two sides that came of it by edits.
 * All that the document tells of a TABLE fits into rows of fixed length, so that every row is
 * made once and used again; only what undoing and the image keep is made when it is first needed.
 */
public final class TableMerge {
    public static final int NONE = -1;
    public static final int EMPTY = 9999;

    private static final int LEFT = 0;
    private static final int RIGHT = 1;
    private static final int BASE = 2;
    private static final int MERGED = 3;

    private static final int KEYS = 20;
    private static final int COLUMNS = 9;
    private static final int BASE_COLUMNS = 5;
    private static final int ADDED_COLUMNS = 2;
    private static final int LEFT_ADDS = 5;
    private static final int RIGHT_ADDS = 7;
    private static final int CELLS = KEYS * COLUMNS;
    private static final int NAMES = 26;
    private static final int TYPES = 4;
    private static final int MOST_ROWS = 12;
    private static final int MOST_DEMANDS = 4;
    private static final int MOST_BYTES = 700;
    private static final int MOST_ACTS = 30;
    private static final int MOST_SEEN = 8;
    private static final int MOST_YEARS = 60;
    private static final int MOST_ALONG = 200;
    private static final int MOST_ALONE = 10;
    private static final int GREATEST = 999;

    private static final int NUMBER = 0;
    private static final int DIGIT = 1;
    private static final int EVEN = 2;
    private static final int FLAG = 3;

    private static final int UNIQUE = 0;
    private static final int NEEDED = 1;
    private static final int BELOW = 2;

    private static final int SETTING = 0;
    private static final int INSERTING = 1;
    private static final int DELETING = 2;
    private static final int RETYPING = 3;
    private static final int RENAMING = 4;
    private static final int ADDING = 5;
    private static final int DROPPING = 6;

    private static final int COLUMN_GONE = 0;
    private static final int NAMES_MEET = 1;
    private static final int TYPES_MEET = 2;
    private static final int NAME_TWICE = 3;
    private static final int ROW_GONE = 4;
    private static final int CELLS_MEET = 5;
    private static final int DEMAND_BROKEN = 6;
    private static final int CONFLICT_IDS = 4 * COLUMNS + KEYS + CELLS + MOST_DEMANDS * KEYS;

    private static final int REFUSED_TEXTS = 0;
    private static final int REFUSED_ACTS = 1;
    private static final int REFUSED_SEEN = 2;

    private final State state = new State();
    private final Merge merge = new Merge();
    private final Tape tape = new Tape();
    private final Acts acts = new Acts();
    private final Seen seen = new Seen();
    private final Questions questions = new Questions();
    private final State imageState = new State();
    private final Acts imageActs = new Acts();
    private final Seen imageSeen = new Seen();
    private boolean imageKept;
    private boolean mergeStands;
    private int faultPlace = NONE;
    private final int[] refused = new int[3];

    public TableMerge() {
    }

    public int feed(int a, int b, int c, int d, int e) {
        if (!tape.hasRoom(20)) {
            return NONE;
        }
        tape.append(a);
        tape.append(b);
        tape.append(c);
        tape.append(d);
        tape.append(e);
        return tape.length;
    }

    public int tables(int n) throws IllegalArgumentException {
        if (n < 0 || n > tape.length) {
            throw new IllegalArgumentException("the tape has not so many bytes");
        }
        int fault = tape.readTables(n);
        faultPlace = tape.place;
        if (fault != 0) {
            refused[REFUSED_TEXTS]++;
            return fault;
        }
        state.copyFrom(tape.told);
        acts.clear();
        seen.clear();
        imageKept = false;
        noteChange();
        return 0;
    }

    public int fault() {
        return faultPlace;
    }

    public int count(int what) throws NoSuchElementException {
        switch (what) {
            case 0: return Integer.bitCount(state.base.columns);
            case 1: return Integer.bitCount(state.base.rows);
            case 2: return state.demands;
            case 3: return Integer.bitCount(freshMerge().result.columns);
            case 4: return Integer.bitCount(freshMerge().result.rows);
            case 5: return freshMerge().size;
            case 6: return state.countChoices();
            case 7: return state.countChoices() - freshMerge().used;
            case 8: return freshMerge().result.countFull();
            case 9: return acts.size;
            case 10: return seen.size;
            case 11: return tape.length;
            case 12: return refused[REFUSED_TEXTS];
            case 13: return refused[REFUSED_ACTS];
            case 14: return refused[REFUSED_SEEN];
            default: throw new NoSuchElementException("no such count");
        }
    }

    public int table(int table, int what) throws NoSuchElementException {
        Table asked = tableOf(table);
        if (what == 0) {
            return asked.columns;
        }
        if (what == 1) {
            return asked.rows;
        }
        throw new NoSuchElementException("no such question of a table");
    }

    public int column(int table, int column, int what) throws NoSuchElementException {
        Table asked = tableOf(table);
        if (!asked.hasColumn(column) || what < 0 || what > 1) {
            throw new NoSuchElementException("no such column, or question of it");
        }
        return what == 0 ? asked.names[column] : asked.types[column];
    }

    public int cell(int table, int key, int column) throws NoSuchElementException {
        Table asked = tableOf(table);
        if (!asked.hasCell(key, column)) {
            throw new NoSuchElementException("no such row or column");
        }
        return asked.numberAt(key, column);
    }

    public int whose(int key, int column) throws NoSuchElementException {
        Merge merged = freshMerge();
        if (!merged.result.hasCell(key, column)) {
            throw new NoSuchElementException("no such row or column merged");
        }
        return merged.owners[key * COLUMNS + column];
    }

    public int conflict(int i, int what) throws NoSuchElementException {
        Merge merged = freshMerge();
        if (i < 0 || i >= merged.size) {
            throw new NoSuchElementException("no such conflict");
        }
        int id = merged.ids[i];
        switch (what) {
            case 0: return Conflicts.kindOf(id);
            case 1: return Conflicts.firstOf(id);
            case 2: return Conflicts.secondOf(id);
            case 3: return merged.byLeft[i];
            case 4: return merged.byRight[i];
            case 5: return Conflicts.choicesOf(id);
            default: throw new NoSuchElementException("no such question of a conflict");
        }
    }

    public boolean set(int side, int key, int column, int number) throws NoSuchElementException {
        return editByHand(SETTING, side, key, column, number) != NONE;
    }

    public boolean insert(int side, int key) throws NoSuchElementException {
        return editByHand(INSERTING, side, key, 0, 0) != NONE;
    }

    public boolean delete(int side, int key) throws NoSuchElementException {
        return editByHand(DELETING, side, key, 0, 0) != NONE;
    }

    public boolean rename(int side, int column, int name) throws NoSuchElementException {
        return editByHand(RENAMING, side, column, name, 0) != NONE;
    }

    public boolean retype(int side, int column, int type) throws NoSuchElementException {
        return editByHand(RETYPING, side, column, type, 0) != NONE;
    }

    public int add(int side, int name, int type) throws NoSuchElementException {
        return editByHand(ADDING, side, name, type, 0);
    }

    public boolean drop(int side, int column) throws NoSuchElementException {
        return editByHand(DROPPING, side, column, 0, 0) != NONE;
    }

    public int settle(int kind, int a, int b, int choice) {
        int id = Conflicts.idOf(kind, a, b);
        if (id == NONE || !freshMerge().isOpen(id) || choice < 0 || choice >= Conflicts.choicesOf(id)) {
            return refuseAct();
        }
        acts.prepare(state);
        state.choices[id] = choice;
        keepAct();
        return freshMerge().size;
    }

    public int unsettle(int kind, int a, int b) {
        int id = Conflicts.idOf(kind, a, b);
        if (id == NONE || state.choices[id] == NONE) {
            return refuseAct();
        }
        acts.prepare(state);
        int was = state.choices[id];
        state.choices[id] = NONE;
        keepAct();
        return was;
    }

    public void flip() {
        acts.prepare(state);
        state.changeSidesAbout();
        keepAct();
    }

    public int commit() {
        Merge merged = freshMerge();
        int rows = Integer.bitCount(merged.result.rows);
        if (merged.size > 0 || rows > MOST_ROWS || Integer.bitCount(merged.result.columns) > BASE_COLUMNS) {
            return refuseAct();
        }
        acts.prepare(state);
        state.becomeMerged(merged.result);
        keepAct();
        return rows;
    }

    public int undo() {
        if (!acts.takeBack(state)) {
            return NONE;
        }
        noteChange();
        return acts.size;
    }

    public int difference(int side, int what) throws NoSuchElementException {
        demandSide(side);
        Table own = state.sideOf(side);
        Table base = state.base;
        switch (what) {
            case 0: return state.countChanged(side);
            case 1: return Integer.bitCount(own.rows & ~base.rows);
            case 2: return Integer.bitCount(base.rows & ~own.rows);
            case 3: return Integer.bitCount(own.columns & ~base.columns);
            case 4: return Integer.bitCount(base.columns & ~own.columns);
            case 5: return own.countOtherNames(base);
            case 6: return own.countOtherTypes(base);
            default: throw new NoSuchElementException("no such difference");
        }
    }

    public int along(int choice, int what) throws NoSuchElementException, IllegalArgumentException {
        demandThreefold(what);
        if (choice < 0 || choice > 2) {
            throw new IllegalArgumentException("no such choice");
        }
        int question = Questions.ALONG + choice;
        if (!questions.knows(question)) {
            questions.findAlong(state, choice);
        }
        return questions.answerTo(question, what);
    }

    public int alone(int side, int what) throws NoSuchElementException {
        demandSide(side);
        demandThreefold(what);
        int question = Questions.ALONE + side;
        if (!questions.knows(question)) {
            questions.pickChanged(state, freshMerge(), side);
            questions.findAlone(state, side);
        }
        return questions.answerTo(question, what);
    }

    public int see(int key, int column, int number) {
        if (!seen.note(key, column, number)) {
            refused[REFUSED_SEEN]++;
            return NONE;
        }
        questions.clear();
        return seen.size;
    }

    public void forget() {
        seen.clear();
        questions.clear();
    }

    public int edited(int what) throws NoSuchElementException {
        demandThreefold(what);
        if (!questions.knows(Questions.EDITED)) {
            questions.findEdited(state, seen);
        }
        return questions.answerTo(Questions.EDITED, what);
    }

    public int years(int seed, int n, int what) throws NoSuchElementException, IllegalArgumentException {
        demandThreefold(what);
        if (n < 0 || n > MOST_YEARS) {
            throw new IllegalArgumentException("no such number of years");
        }
        questions.findYears(state, seed, n);
        return questions.answerTo(Questions.YEARS, what);
    }

    public void image() {
        imageState.copyFrom(state);
        imageActs.copyFrom(acts);
        imageSeen.copyFrom(seen);
        imageKept = true;
    }

    public boolean restore() {
        if (!imageKept) {
            return false;
        }
        state.copyFrom(imageState);
        acts.copyFrom(imageActs);
        seen.copyFrom(imageSeen);
        noteChange();
        return true;
    }

    private static void demandSide(int side) {
        if (side != LEFT && side != RIGHT) {
            throw new NoSuchElementException("no such side");
        }
    }

    private static void demandThreefold(int what) {
        if (what < 0 || what > 2) {
            throw new NoSuchElementException("no such question");
        }
    }

    private Table tableOf(int table) {
        switch (table) {
            case LEFT: return state.left;
            case RIGHT: return state.right;
            case BASE: return state.base;
            case MERGED: return freshMerge().result;
            default: throw new NoSuchElementException("no such table");
        }
    }

    private Merge freshMerge() {
        if (!mergeStands) {
            merge.run(state);
            mergeStands = true;
        }
        return merge;
    }

    private int editByHand(int edit, int side, int a, int b, int c) {
        demandSide(side);
        acts.prepare(state);
        int answer = state.doEdit(edit, side, a, b, c);
        if (answer == NONE) {
            return refuseAct();
        }
        keepAct();
        return answer;
    }

    private int refuseAct() {
        refused[REFUSED_ACTS]++;
        return NONE;
    }

    private void keepAct() {
        acts.keepPrepared();
        noteChange();
    }

    private void noteChange() {
        mergeStands = false;
        questions.clear();
    }

    /** What the TYPES hold, and what a number becomes under another one. */
    private static final class Types {
        static boolean holds(int type, int number) {
            if (number == EMPTY) {
                return true;
            }
            if (number < -GREATEST || number > GREATEST) {
                return false;
            }
            switch (type) {
                case NUMBER: return true;
                case DIGIT: return number >= 0 && number <= 9;
                case EVEN: return (number & 1) == 0;
                case FLAG: return number == 0 || number == 1;
                default: return false;
            }
        }

        static int cast(int number, int type) {
            if (number == EMPTY) {
                return EMPTY;
            }
            switch (type) {
                case DIGIT: return (number < 0 ? -number : number) % 10;
                case EVEN: return number - number % 2;
                case FLAG: return number == 0 ? 0 : 1;
                default: return number;
            }
        }

        /** The TYPE that goes with both, where both sides took another one; NONE if none does. */
        static int together(int one, int other) {
            if (one == FLAG && other == DIGIT || one == DIGIT && other == FLAG) {
                return FLAG;
            }
            if (one == NUMBER) {
                return other;
            }
            if (other == NUMBER) {
                return one;
            }
            return NONE;
        }
    }

    /** Every CONFLICT that can ever come up has a number of its own, so that CHOICES are one row. */
    private static final class Conflicts {
        private static final int ROWS_FROM = 4 * COLUMNS;
        private static final int CELLS_FROM = ROWS_FROM + KEYS;
        private static final int DEMANDS_FROM = CELLS_FROM + CELLS;

        static int idOf(int kind, int a, int b) {
            switch (kind) {
                case COLUMN_GONE:
                case NAMES_MEET:
                case TYPES_MEET:
                case NAME_TWICE:
                    return within(a, COLUMNS) && b == 0 ? kind * COLUMNS + a : NONE;
                case ROW_GONE:
                    return within(a, KEYS) && b == 0 ? ROWS_FROM + a : NONE;
                case CELLS_MEET:
                    return within(a, KEYS) && within(b, COLUMNS) ? CELLS_FROM + a * COLUMNS + b : NONE;
                case DEMAND_BROKEN:
                    return within(a, MOST_DEMANDS) && within(b, KEYS) ? DEMANDS_FROM + a * KEYS + b : NONE;
                default:
                    return NONE;
            }
        }

        static int kindOf(int id) {
            if (id < ROWS_FROM) {
                return id / COLUMNS;
            }
            if (id < CELLS_FROM) {
                return ROW_GONE;
            }
            return id < DEMANDS_FROM ? CELLS_MEET : DEMAND_BROKEN;
        }

        static int firstOf(int id) {
            if (id < ROWS_FROM) {
                return id % COLUMNS;
            }
            if (id < CELLS_FROM) {
                return id - ROWS_FROM;
            }
            return id < DEMANDS_FROM ? (id - CELLS_FROM) / COLUMNS : (id - DEMANDS_FROM) / KEYS;
        }

        static int secondOf(int id) {
            if (id < CELLS_FROM) {
                return 0;
            }
            return id < DEMANDS_FROM ? (id - CELLS_FROM) % COLUMNS : (id - DEMANDS_FROM) % KEYS;
        }

        static int choicesOf(int id) {
            return isOfSides(id) ? 3 : 2;
        }

        static boolean isOfSides(int id) {
            int kind = kindOf(id);
            return kind == NAMES_MEET || kind == TYPES_MEET || kind == CELLS_MEET;
        }

        private static boolean within(int number, int end) {
            return number >= 0 && number < end;
        }
    }

    /** COLUMNS and ROWS as bits; a CELL that isn't there is EMPTY, so that none has to be asked for twice. */
    private static final class Table {
        int columns;
        int rows;
        final int[] names = new int[COLUMNS];
        final int[] types = new int[COLUMNS];
        final int[] numbers = new int[CELLS];

        Table() {
            Arrays.fill(numbers, EMPTY);
        }

        void clear() {
            columns = 0;
            rows = 0;
            Arrays.fill(numbers, EMPTY);
        }

        void copyFrom(Table other) {
            columns = other.columns;
            rows = other.rows;
            System.arraycopy(other.names, 0, names, 0, COLUMNS);
            System.arraycopy(other.types, 0, types, 0, COLUMNS);
            System.arraycopy(other.numbers, 0, numbers, 0, CELLS);
        }

        boolean hasColumn(int column) {
            return column >= 0 && column < COLUMNS && (columns >> column & 1) != 0;
        }

        boolean hasRow(int key) {
            return key >= 0 && key < KEYS && (rows >> key & 1) != 0;
        }

        boolean hasCell(int key, int column) {
            return key >= 0 && key < KEYS && column >= 0 && column < COLUMNS
                    && (rows >> key & 1) != 0 && (columns >> column & 1) != 0;
        }

        boolean hasName(int name) {
            for (int c = 0; c < COLUMNS; c++) {
                if (hasColumn(c) && names[c] == name) {
                    return true;
                }
            }
            return false;
        }

        int numberAt(int key, int column) {
            if (key < 0 || key >= KEYS || column < 0 || column >= COLUMNS) {
                return EMPTY;
            }
            return numbers[key * COLUMNS + column];
        }

        /** Of a ROW and a COLUMN that are there: the callers have asked. */
        void putNumber(int key, int column, int number) {
            if (key >= 0 && key < KEYS && column >= 0 && column < COLUMNS) {
                numbers[key * COLUMNS + column] = number;
            }
        }

        void putColumn(int column, int name, int type) {
            if (column >= 0 && column < COLUMNS) {
                columns |= 1 << column;
                names[column] = name;
                types[column] = type;
            }
        }

        void takeColumn(int column) {
            for (int k = 0; k < KEYS; k++) {
                putNumber(k, column, EMPTY);
            }
            if (hasColumn(column)) {
                columns &= ~(1 << column);
            }
        }

        void putRow(int key) {
            if (key >= 0 && key < KEYS) {
                rows |= 1 << key;
            }
        }

        void takeRow(int key) {
            for (int c = 0; c < COLUMNS; c++) {
                putNumber(key, c, EMPTY);
            }
            if (hasRow(key)) {
                rows &= ~(1 << key);
            }
        }

        /** Added COLUMNS under the other side's numbers, as a side has them that changes about. */
        void renumberAdded() {
            for (int i = 0; i < ADDED_COLUMNS; i++) {
                int one = LEFT_ADDS + i;
                int other = RIGHT_ADDS + i;
                swap(names, one, other);
                swap(types, one, other);
                for (int k = 0; k < KEYS; k++) {
                    swap(numbers, k * COLUMNS + one, k * COLUMNS + other);
                }
            }
            columns = columns & (1 << LEFT_ADDS) - 1
                    | (columns >> LEFT_ADDS & 3) << RIGHT_ADDS
                    | (columns >> RIGHT_ADDS & 3) << LEFT_ADDS;
        }

        int countFull() {
            int full = 0;
            for (int i = 0; i < CELLS; i++) {
                if (numbers[i] != EMPTY) {
                    full++;
                }
            }
            return full;
        }

        int countOtherNames(Table base) {
            int other = 0;
            for (int c = 0; c < COLUMNS; c++) {
                if (hasColumn(c) && base.hasColumn(c) && names[c] != base.names[c]) {
                    other++;
                }
            }
            return other;
        }

        int countOtherTypes(Table base) {
            int other = 0;
            for (int c = 0; c < COLUMNS; c++) {
                if (hasColumn(c) && base.hasColumn(c) && types[c] != base.types[c]) {
                    other++;
                }
            }
            return other;
        }

        static void swap(int[] row, int one, int other) {
            if (one < 0 || other < 0 || one >= row.length || other >= row.length) {
                return;
            }
            int kept = row[one];
            row[one] = row[other];
            row[other] = kept;
        }
    }

    /** All that an ACT may change: the BASE, both sides, DEMANDS and CHOICES. */
    private static final class State {
        final Table base = new Table();
        Table left = new Table();
        Table right = new Table();
        int leftHad;
        int rightHad;
        int demands;
        final int[] demandKinds = new int[MOST_DEMANDS];
        final int[] demandFirsts = new int[MOST_DEMANDS];
        final int[] demandSeconds = new int[MOST_DEMANDS];
        final int[] choices = new int[CONFLICT_IDS];

        State() {
            Arrays.fill(choices, NONE);
        }

        void clear() {
            base.clear();
            demands = 0;
            startSides();
        }

        /** Both sides as the BASE, no EDITS yet, and so no CHOICES. */
        void startSides() {
            left.copyFrom(base);
            right.copyFrom(base);
            leftHad = 0;
            rightHad = 0;
            Arrays.fill(choices, NONE);
        }

        void copyFrom(State other) {
            base.copyFrom(other.base);
            left.copyFrom(other.left);
            right.copyFrom(other.right);
            leftHad = other.leftHad;
            rightHad = other.rightHad;
            demands = other.demands;
            System.arraycopy(other.demandKinds, 0, demandKinds, 0, MOST_DEMANDS);
            System.arraycopy(other.demandFirsts, 0, demandFirsts, 0, MOST_DEMANDS);
            System.arraycopy(other.demandSeconds, 0, demandSeconds, 0, MOST_DEMANDS);
            System.arraycopy(other.choices, 0, choices, 0, CONFLICT_IDS);
        }

        Table sideOf(int side) {
            return side == LEFT ? left : right;
        }

        void putDemand(int kind, int first, int second) {
            if (demands < MOST_DEMANDS) {
                demandKinds[demands] = kind;
                demandFirsts[demands] = first;
                demandSeconds[demands] = second;
                demands++;
            }
        }

        /** The BASE's CELL as it would be under the side's TYPE. */
        int baseCast(int side, int key, int column) {
            Table own = sideOf(side);
            int number = base.numberAt(key, column);
            return own.hasColumn(column) ? Types.cast(number, own.types[column]) : number;
        }

        boolean isChanged(int side, int key, int column) {
            Table own = sideOf(side);
            if (!own.hasCell(key, column)) {
                return false;
            }
            return own.numberAt(key, column) != Types.cast(base.numberAt(key, column), own.types[column]);
        }

        boolean isColumnChanged(int side, int column) {
            for (int k = 0; k < KEYS; k++) {
                if (isChanged(side, k, column)) {
                    return true;
                }
            }
            return false;
        }

        boolean isRowChanged(int side, int key) {
            for (int c = 0; c < COLUMNS; c++) {
                if (isChanged(side, key, c)) {
                    return true;
                }
            }
            return false;
        }

        int countChanged(int side) {
            int changed = 0;
            for (int k = 0; k < KEYS; k++) {
                for (int c = 0; c < COLUMNS; c++) {
                    if (base.hasCell(k, c) && isChanged(side, k, c)) {
                        changed++;
                    }
                }
            }
            return changed;
        }

        int countChoices() {
            int there = 0;
            for (int id = 0; id < CONFLICT_IDS; id++) {
                if (choices[id] != NONE) {
                    there++;
                }
            }
            return there;
        }

        /** The number of an ADDED COLUMN, 0 for another EDIT; NONE, and all stays, if it can't be done. */
        int doEdit(int edit, int side, int a, int b, int c) {
            Table own = sideOf(side);
            switch (edit) {
                case SETTING: return setNumber(own, a, b, c) ? 0 : NONE;
                case INSERTING: return insertRow(own, a) ? 0 : NONE;
                case DELETING: return deleteRow(own, a) ? 0 : NONE;
                case RETYPING: return retypeColumn(own, a, b) ? 0 : NONE;
                case RENAMING: return renameColumn(own, a, b) ? 0 : NONE;
                case ADDING: return addColumn(side, a, b);
                case DROPPING: return dropColumn(own, a) ? 0 : NONE;
                default: return NONE;
            }
        }

        private boolean setNumber(Table own, int key, int column, int number) {
            if (!own.hasCell(key, column) || own.numberAt(key, column) == number
                    || !Types.holds(own.types[column], number)) {
                return false;
            }
            own.putNumber(key, column, number);
            return true;
        }

        private boolean insertRow(Table own, int key) {
            if (key < 0 || key >= KEYS || own.hasRow(key) || Integer.bitCount(own.rows) >= MOST_ROWS) {
                return false;
            }
            own.putRow(key);
            return true;
        }

        private boolean deleteRow(Table own, int key) {
            if (!own.hasRow(key)) {
                return false;
            }
            own.takeRow(key);
            return true;
        }

        private boolean renameColumn(Table own, int column, int name) {
            if (!own.hasColumn(column) || name < 0 || name >= NAMES || own.hasName(name)) {
                return false;
            }
            own.names[column] = name;
            return true;
        }

        private boolean retypeColumn(Table own, int column, int type) {
            if (!own.hasColumn(column) || type < 0 || type >= TYPES || own.types[column] == type) {
                return false;
            }
            own.types[column] = type;
            for (int k = 0; k < KEYS; k++) {
                own.putNumber(k, column, Types.cast(own.numberAt(k, column), type));
            }
            return true;
        }

        private int addColumn(int side, int name, int type) {
            Table own = sideOf(side);
            int had = side == LEFT ? leftHad : rightHad;
            if (had >= ADDED_COLUMNS || name < 0 || name >= NAMES || own.hasName(name) || type < 0 || type >= TYPES) {
                return NONE;
            }
            int column = (side == LEFT ? LEFT_ADDS : RIGHT_ADDS) + had;
            own.putColumn(column, name, type);
            if (side == LEFT) {
                leftHad++;
            } else {
                rightHad++;
            }
            return column;
        }

        private boolean dropColumn(Table own, int column) {
            if (!own.hasColumn(column)) {
                return false;
            }
            own.takeColumn(column);
            return true;
        }

        void changeSidesAbout() {
            Table wasLeft = left;
            left = right;
            right = wasLeft;
            left.renumberAdded();
            right.renumberAdded();
            int had = leftHad;
            leftHad = rightHad;
            rightHad = had;
            changeChoicesAbout();
        }

        private void changeChoicesAbout() {
            for (int i = 0; i < ADDED_COLUMNS; i++) {
                swapChoices(NAME_TWICE, LEFT_ADDS + i, 0, RIGHT_ADDS + i, 0);
                for (int k = 0; k < KEYS; k++) {
                    swapChoices(CELLS_MEET, k, LEFT_ADDS + i, k, RIGHT_ADDS + i);
                }
            }
            for (int id = 0; id < CONFLICT_IDS; id++) {
                if (choices[id] > 0 && Conflicts.isOfSides(id)) {
                    choices[id] = 3 - choices[id];
                }
            }
        }

        private void swapChoices(int kind, int a, int b, int otherA, int otherB) {
            Table.swap(choices, Conflicts.idOf(kind, a, b), Conflicts.idOf(kind, otherA, otherB));
        }

        void becomeMerged(Table merged) {
            keepDemandsOf(merged);
            base.clear();
            base.rows = merged.rows;
            int next = 0;
            for (int c = 0; c < COLUMNS; c++) {
                if (merged.hasColumn(c)) {
                    base.putColumn(next, merged.names[c], merged.types[c]);
                    for (int k = 0; k < KEYS; k++) {
                        base.putNumber(k, next, merged.numberAt(k, c));
                    }
                    next++;
                }
            }
            startSides();
        }

        private void keepDemandsOf(Table merged) {
            int told = demands;
            demands = 0;
            for (int d = 0; d < told && d < MOST_DEMANDS; d++) {
                int first = demandFirsts[d];
                int second = demandSeconds[d];
                if (merged.hasColumn(first) && merged.hasColumn(second)) {
                    putDemand(demandKinds[d], placeAmong(merged, first), placeAmong(merged, second));
                }
            }
        }

        private static int placeAmong(Table merged, int column) {
            return Integer.bitCount(merged.columns & (1 << column) - 1);
        }
    }

    /** The MERGED TABLE of a State, WHOSE its CELLS are, and the CONFLICTS in the order in which they come up. */
    private static final class Merge {
        final Table result = new Table();
        final int[] owners = new int[CELLS];
        int size;
        int used;
        final int[] ids = new int[CONFLICT_IDS];
        final int[] byLeft = new int[CONFLICT_IDS];
        final int[] byRight = new int[CONFLICT_IDS];
        private final int[] columnsOfRight = new int[COLUMNS];

        void run(State s) {
            result.clear();
            size = 0;
            used = 0;
            for (int c = 0; c < COLUMNS; c++) {
                columnsOfRight[c] = c;
            }
            for (int c = 0; c < BASE_COLUMNS; c++) {
                if (s.base.hasColumn(c)) {
                    mergeColumn(s, c);
                }
            }
            mergeAddedColumns(s);
            partNames(s);
            for (int k = 0; k < KEYS; k++) {
                mergeRow(s, k);
            }
            for (int k = 0; k < KEYS; k++) {
                if (result.hasRow(k)) {
                    mergeCells(s, k);
                }
            }
            for (int d = 0; d < s.demands && d < MOST_DEMANDS; d++) {
                checkDemand(s, d);
            }
        }

        boolean isOpen(int id) {
            for (int i = 0; i < size; i++) {
                if (ids[i] == id) {
                    return true;
                }
            }
            return false;
        }

        boolean isMerged(int side, int column) {
            if (side == LEFT) {
                return result.hasColumn(column);
            }
            for (int c = 0; c < COLUMNS; c++) {
                if (columnsOfRight[c] == column && result.hasColumn(c)) {
                    return true;
                }
            }
            return false;
        }

        /** The CHOICE by which what comes up (once a merge) is SETTLED; NONE, and it is a CONFLICT, if there is none. */
        private int ask(State s, int id, int left, int right) {
            if (id < 0 || id >= CONFLICT_IDS) {
                return NONE;
            }
            int choice = s.choices[id];
            if (choice != NONE) {
                used++;
            } else if (size < CONFLICT_IDS) {
                ids[size] = id;
                byLeft[size] = left;
                byRight[size] = right;
                size++;
            }
            return choice;
        }

        private void mergeColumn(State s, int column) {
            boolean inLeft = s.left.hasColumn(column);
            boolean inRight = s.right.hasColumn(column);
            if (inLeft && inRight) {
                int name = mergedName(s, column);
                result.putColumn(column, name, mergedType(s, column));
            } else if (inLeft || inRight) {
                int side = inLeft ? LEFT : RIGHT;
                Table own = s.sideOf(side);
                boolean asBase = own.names[column] == s.base.names[column] && own.types[column] == s.base.types[column]
                        && !s.isColumnChanged(side, column);
                if (!asBase && ask(s, Conflicts.idOf(COLUMN_GONE, column, 0), NONE, NONE) != 1) {
                    result.putColumn(column, own.names[column], own.types[column]);
                }
            }
        }

        private int mergedName(State s, int column) {
            int base = s.base.names[column];
            int left = s.left.names[column];
            int right = s.right.names[column];
            if (left == right || right == base) {
                return left;
            }
            if (left == base) {
                return right;
            }
            return chosen(ask(s, Conflicts.idOf(NAMES_MEET, column, 0), left, right), base, left, right);
        }

        private int mergedType(State s, int column) {
            int base = s.base.types[column];
            int left = s.left.types[column];
            int right = s.right.types[column];
            if (left == right || right == base) {
                return left;
            }
            if (left == base) {
                return right;
            }
            int together = Types.together(left, right);
            if (together != NONE) {
                return together;
            }
            return chosen(ask(s, Conflicts.idOf(TYPES_MEET, column, 0), left, right), base, left, right);
        }

        private static int chosen(int choice, int base, int left, int right) {
            if (choice == 1) {
                return left;
            }
            return choice == 2 ? right : base;
        }

        private void mergeAddedColumns(State s) {
            for (int c = LEFT_ADDS; c < RIGHT_ADDS; c++) {
                columnsOfRight[c] = NONE;
                if (s.left.hasColumn(c)) {
                    result.putColumn(c, s.left.names[c], s.left.types[c]);
                }
            }
            for (int c = RIGHT_ADDS; c < COLUMNS; c++) {
                if (s.right.hasColumn(c)) {
                    int twin = twinInLeft(s, c);
                    if (twin == NONE) {
                        result.putColumn(c, s.right.names[c], s.right.types[c]);
                    } else {
                        columnsOfRight[twin] = c;
                    }
                }
            }
        }

        private int twinInLeft(State s, int column) {
            for (int c = LEFT_ADDS; c < RIGHT_ADDS; c++) {
                if (s.left.hasColumn(c) && columnsOfRight[c] == NONE && s.left.names[c] == s.right.names[column]
                        && s.left.types[c] == s.right.types[column]) {
                    return c;
                }
            }
            return NONE;
        }

        private void partNames(State s) {
            for (int c = 0; c < COLUMNS; c++) {
                if (result.hasColumn(c) && isNameAhead(c)) {
                    int choice = ask(s, Conflicts.idOf(NAME_TWICE, c, 0), NONE, NONE);
                    if (choice == 0) {
                        result.names[c] = leastFreeName();
                    } else if (choice == 1) {
                        result.takeColumn(c);
                    }
                }
            }
        }

        private boolean isNameAhead(int column) {
            for (int c = 0; c < column && c < COLUMNS; c++) {
                if (result.hasColumn(c) && result.names[c] == result.names[column]) {
                    return true;
                }
            }
            return false;
        }

        private int leastFreeName() {
            int name = 0;
            for (int tried = 0; tried < NAMES && result.hasName(name); tried++) {
                name++;
            }
            return name;
        }

        private void mergeRow(State s, int key) {
            boolean inLeft = s.left.hasRow(key);
            boolean inRight = s.right.hasRow(key);
            if (!inLeft && !inRight) {
                return;
            }
            if (s.base.hasRow(key) && inLeft != inRight) {
                boolean changed = s.isRowChanged(inLeft ? LEFT : RIGHT, key);
                if (!changed || ask(s, Conflicts.idOf(ROW_GONE, key, 0), NONE, NONE) == 1) {
                    return;
                }
            }
            result.putRow(key);
        }

        private void mergeCells(State s, int key) {
            for (int c = 0; c < COLUMNS; c++) {
                if (result.hasColumn(c)) {
                    mergeCell(s, key, c);
                }
            }
        }

        /** WHOSE a CELL is are bits: 1 for LEFT, 2 for RIGHT; a CHOICE names them alike. */
        private void mergeCell(State s, int key, int column) {
            int type = result.types[column];
            int ofRight = columnsOfRight[column];
            int owner = (s.isChanged(LEFT, key, column) ? 1 : 0) + (s.isChanged(RIGHT, key, ofRight) ? 2 : 0);
            int base = Types.cast(s.base.numberAt(key, column), type);
            if (owner == 0) {
                putMerged(key, column, base, 0);
                return;
            }
            int left = Types.cast(s.left.numberAt(key, column), type);
            int right = Types.cast(s.right.numberAt(key, ofRight), type);
            if (owner == 3 && left != right) {
                owner = Math.max(0, ask(s, Conflicts.idOf(CELLS_MEET, key, column), left, right));
            }
            putMerged(key, column, owner == 3 ? left : chosen(owner, base, left, right), owner);
        }

        private void putMerged(int key, int column, int number, int owner) {
            if (result.hasCell(key, column)) {
                result.putNumber(key, column, number);
                owners[key * COLUMNS + column] = owner;
            }
        }

        private void checkDemand(State s, int demand) {
            int kind = s.demandKinds[demand];
            int first = s.demandFirsts[demand];
            int second = s.demandSeconds[demand];
            if (!result.hasColumn(first) || !result.hasColumn(second)) {
                return;
            }
            for (int k = 0; k < KEYS; k++) {
                if (result.hasRow(k) && isBroken(kind, first, second, k)) {
                    int choice = ask(s, Conflicts.idOf(DEMAND_BROKEN, demand, k), NONE, NONE);
                    if (choice == 0) {
                        putMerged(k, second, kind == NEEDED ? 0 : EMPTY, 4);
                    } else if (choice == 1) {
                        result.takeRow(k);
                    }
                }
            }
        }

        private boolean isBroken(int kind, int first, int second, int key) {
            int number = result.numberAt(key, first);
            switch (kind) {
                case UNIQUE: return number != EMPTY && isAtLesserKey(number, first, key);
                case NEEDED: return number == EMPTY;
                case BELOW: {
                    int bound = result.numberAt(key, second);
                    return number != EMPTY && bound != EMPTY && number >= bound;
                }
                default: return false;
            }
        }

        private boolean isAtLesserKey(int number, int column, int key) {
            for (int k = 0; k < key && k < KEYS; k++) {
                if (result.numberAt(k, column) == number) {
                    return true;
                }
            }
            return false;
        }
    }

    /** The bytes that were fed, and the reading of a TEXT from them, TOKEN by TOKEN. */
    private static final class Tape {
        private static final int END = 0;
        private static final int WORD = 1;
        private static final int DIGITS = 2;
        private static final int SIGN = 3;
        private static final int MOST_DIGITS = 4;
        private static final int GREATEST_OF_DIGITS = 9999;

        final byte[] bytes = new byte[MOST_BYTES];
        int length;
        final State told = new State();
        int place = NONE;
        private int fault;
        private int end;
        private int token;
        private int start;
        private int behind;
        private boolean rowsTold;
        private boolean editsTold;

        boolean hasRoom(int more) {
            return length + more <= MOST_BYTES;
        }

        void append(int four) {
            if (hasRoom(4)) {
                for (int shift = 24; shift >= 0; shift -= 8) {
                    bytes[length] = (byte) (four >> shift);
                    length++;
                }
            }
        }

        /** The FAULT of the first n bytes, 0 without; what they tell is told then. */
        int readTables(int n) {
            end = Math.max(0, Math.min(n, length));
            length = 0;
            fault = 0;
            place = NONE;
            behind = 0;
            rowsTold = false;
            editsTold = false;
            told.clear();
            step();
            for (int lines = 0; lines < MOST_BYTES && token != END && fault == 0; lines++) {
                readLine();
            }
            if (!editsTold) {
                told.startSides();
            }
            return fault;
        }

        private void readLine() {
            if (isWord("column")) {
                readColumn();
            } else if (isWord("row")) {
                readRow();
            } else if (isWord("unique")) {
                readDemand(UNIQUE);
            } else if (isWord("needed")) {
                readDemand(NEEDED);
            } else if (isWord("below")) {
                readDemand(BELOW);
            } else if (isWord("left")) {
                readEdit(LEFT);
            } else if (isWord("right")) {
                readEdit(RIGHT);
            } else {
                fail(1, start);
            }
        }

        private void readColumn() {
            int column = Integer.bitCount(told.base.columns);
            takeHead(!rowsTold && !editsTold, column < BASE_COLUMNS);
            int nameStart = start;
            int name = takeName();
            if (fault == 0 && told.base.hasName(name)) {
                fail(4, nameStart);
            }
            int type = takeType();
            takeSemicolon();
            if (fault == 0) {
                told.base.putColumn(column, name, type);
            }
        }

        private void readRow() {
            takeHead(!editsTold, Integer.bitCount(told.base.rows) < MOST_ROWS);
            rowsTold = true;
            int keyStart = start;
            int key = takeNumber(KEYS - 1);
            if (fault == 0 && told.base.hasRow(key)) {
                fail(4, keyStart);
            }
            if (fault == 0) {
                told.base.putRow(key);
            }
            for (int c = 0; c < BASE_COLUMNS && fault == 0 && told.base.hasColumn(c); c++) {
                int cellStart = start;
                int number = takeCell();
                if (fault == 0 && !Types.holds(told.base.types[c], number)) {
                    fail(5, cellStart);
                }
                if (fault == 0) {
                    told.base.putNumber(key, c, number);
                }
            }
            takeSemicolon();
        }

        private void readDemand(int kind) {
            takeHead(!editsTold, told.demands < MOST_DEMANDS);
            int first = takeDemanded(NONE);
            int second = kind == BELOW ? takeDemanded(first) : first;
            takeSemicolon();
            if (fault == 0) {
                told.putDemand(kind, first, second);
            }
        }

        private int takeDemanded(int unlike) {
            int columnStart = start;
            int column = takeNumber(GREATEST_OF_DIGITS);
            if (fault == 0 && (!told.base.hasColumn(column) || column == unlike)) {
                fail(3, columnStart);
            }
            return column;
        }

        private void readEdit(int side) {
            int head = start;
            if (!editsTold) {
                told.startSides();
                editsTold = true;
            }
            step();
            int edit = takeEditWord();
            int a = 0;
            int b = 0;
            int c = 0;
            switch (edit) {
                case SETTING:
                    a = takeNumber(KEYS - 1);
                    b = takeNumber(GREATEST_OF_DIGITS);
                    c = takeCell();
                    break;
                case INSERTING:
                case DELETING:
                    a = takeNumber(KEYS - 1);
                    break;
                case RENAMING:
                    a = takeNumber(GREATEST_OF_DIGITS);
                    b = takeName();
                    break;
                case RETYPING:
                    a = takeNumber(GREATEST_OF_DIGITS);
                    b = takeType();
                    break;
                case ADDING:
                    a = takeName();
                    b = takeType();
                    break;
                default:
                    a = takeNumber(GREATEST_OF_DIGITS);
                    break;
            }
            takeSemicolon();
            if (fault == 0 && told.doEdit(edit, side, a, b, c) == NONE) {
                fail(6, head);
            }
        }

        private int takeEditWord() {
            int edit = NONE;
            if (isWord("set")) {
                edit = SETTING;
            } else if (isWord("insert")) {
                edit = INSERTING;
            } else if (isWord("delete")) {
                edit = DELETING;
            } else if (isWord("rename")) {
                edit = RENAMING;
            } else if (isWord("retype")) {
                edit = RETYPING;
            } else if (isWord("add")) {
                edit = ADDING;
            } else if (isWord("drop")) {
                edit = DROPPING;
            }
            return edit == NONE ? fail(1, start) : passed(edit);
        }

        private void takeHead(boolean canStand, boolean hasRoom) {
            if (!canStand) {
                fail(1, start);
            } else if (!hasRoom) {
                fail(2, start);
            } else {
                step();
            }
        }

        private int takeName() {
            if (token != WORD || behind - start != 1) {
                return fail(1, start);
            }
            return passed(bytes[start] - 'a');
        }

        private int takeType() {
            if (isWord("number")) {
                return passed(NUMBER);
            }
            if (isWord("digit")) {
                return passed(DIGIT);
            }
            if (isWord("even")) {
                return passed(EVEN);
            }
            if (isWord("flag")) {
                return passed(FLAG);
            }
            return fail(1, start);
        }

        private int takeCell() {
            if (isSign('_')) {
                return passed(EMPTY);
            }
            boolean minus = isSign('-');
            if (minus) {
                step();
            }
            int number = takeNumber(GREATEST);
            return minus ? -number : number;
        }

        private int takeNumber(int most) {
            if (token != DIGITS) {
                return fail(1, start);
            }
            if (behind - start > MOST_DIGITS) {
                return fail(2, start);
            }
            int number = 0;
            for (int i = start; i < behind && i < MOST_BYTES; i++) {
                number = number * 10 + bytes[i] - '0';
            }
            if (number > most) {
                return fail(2, start);
            }
            step();
            return number;
        }

        private void takeSemicolon() {
            if (isSign(';')) {
                step();
            } else {
                fail(1, start);
            }
        }

        /** Only the first FAULT counts: what is read behind it may fail as it likes. */
        private int fail(int number, int where) {
            if (fault == 0) {
                fault = number;
                place = where;
            }
            return NONE;
        }

        private int passed(int meaning) {
            step();
            return meaning;
        }

        private boolean isSign(char sign) {
            return token == SIGN && start < MOST_BYTES && bytes[start] == sign;
        }

        private boolean isWord(String word) {
            if (token != WORD || behind - start != word.length()) {
                return false;
            }
            for (int i = 0; i < word.length() && start + i < MOST_BYTES; i++) {
                if (bytes[start + i] != word.charAt(i)) {
                    return false;
                }
            }
            return true;
        }

        private void step() {
            start = behind;
            while (start < end && (bytes[start] == ' ' || bytes[start] == '\n')) {
                start++;
            }
            behind = start;
            token = END;
            if (start < end) {
                token = kindOf(bytes[start]);
                behind++;
                while (token != SIGN && behind < end && kindOf(bytes[behind]) == token) {
                    behind++;
                }
            }
        }

        /** A byte that begins no TOKEN is a sign that can stand nowhere. */
        private static int kindOf(byte one) {
            if (one >= 'a' && one <= 'z') {
                return WORD;
            }
            return one >= '0' && one <= '9' ? DIGITS : SIGN;
        }
    }

    /** The States ahead of the latest ACTS, in a ring; one slot more, for an ACT that may be refused yet. */
    private static final class Acts {
        private static final int SLOTS = MOST_ACTS + 1;
        private final State[] ahead = new State[SLOTS];
        private int first;
        int size;

        void clear() {
            size = 0;
        }

        void prepare(State now) {
            slot(size).copyFrom(now);
        }

        void keepPrepared() {
            if (size < MOST_ACTS) {
                size++;
            } else {
                first = (first + 1) % SLOTS;
            }
        }

        boolean takeBack(State into) {
            if (size == 0) {
                return false;
            }
            size--;
            into.copyFrom(slot(size));
            return true;
        }

        void copyFrom(Acts other) {
            size = other.size;
            for (int i = 0; i < size; i++) {
                slot(i).copyFrom(other.slot(i));
            }
        }

        private State slot(int i) {
            int at = Math.floorMod(first + i, SLOTS);
            State kept = ahead[at];
            if (kept == null) {
                kept = new State();
                ahead[at] = kept;
            }
            return kept;
        }
    }

    /** What is SEEN of merged CELLS. */
    private static final class Seen {
        int size;
        private final int[] keys = new int[MOST_SEEN];
        private final int[] columns = new int[MOST_SEEN];
        private final int[] numbers = new int[MOST_SEEN];

        void clear() {
            size = 0;
        }

        boolean note(int key, int column, int number) {
            if (size >= MOST_SEEN || key < 0 || key >= KEYS || column < 0 || column >= COLUMNS
                    || !Types.holds(NUMBER, number)) {
                return false;
            }
            keys[size] = key;
            columns[size] = column;
            numbers[size] = number;
            size++;
            return true;
        }

        void copyFrom(Seen other) {
            size = other.size;
            System.arraycopy(other.keys, 0, keys, 0, MOST_SEEN);
            System.arraycopy(other.columns, 0, columns, 0, MOST_SEEN);
            System.arraycopy(other.numbers, 0, numbers, 0, MOST_SEEN);
        }

        boolean isSo(Table merged) {
            for (int i = 0; i < size && i < MOST_SEEN; i++) {
                if (!merged.hasCell(keys[i], columns[i]) || merged.numberAt(keys[i], columns[i]) != numbers[i]) {
                    return false;
                }
            }
            return true;
        }
    }

    /**
     * What would be: asked on a State of its own, so that all is as ever behind it. Answers that cost many
     * merges are kept until something changes, as their three parts are asked for one by one.
     */
    private static final class Questions {
        static final int ALONE = 0;
        static final int ALONG = 2;
        static final int EDITED = 5;
        static final int YEARS = 6;
        private static final int QUESTIONS = 7;
        private static final int PARTS = 3;

        private final State trial = new State();
        private final Merge merge = new Merge();
        private final int[] known = new int[QUESTIONS];
        private final int[] answers = new int[QUESTIONS * PARTS];
        private final int[] picked = new int[MOST_ALONE];
        private int pickedSize;
        private int seed;

        void clear() {
            Arrays.fill(known, 0);
        }

        boolean knows(int question) {
            return question >= 0 && question < QUESTIONS && known[question] != 0;
        }

        int answerTo(int question, int what) {
            int at = question * PARTS + what;
            return at >= 0 && at < answers.length ? answers[at] : NONE;
        }

        private void keepAnswer(int question, int one, int two, int three) {
            if (question >= 0 && question < QUESTIONS) {
                known[question] = 1;
                answers[question * PARTS] = one;
                answers[question * PARTS + 1] = two;
                answers[question * PARTS + 2] = three;
            }
        }

        void findAlong(State now, int choice) {
            trial.copyFrom(now);
            merge.run(trial);
            int settled = 0;
            while (settled < MOST_ALONG && merge.size > 0) {
                int id = merge.ids[0];
                trial.choices[id] = Math.min(choice, Conflicts.choicesOf(id) - 1);
                settled++;
                merge.run(trial);
            }
            keepAnswer(ALONG + choice, settled, merge.size, Integer.bitCount(merge.result.rows));
        }

        void pickChanged(State now, Merge merged, int side) {
            pickedSize = 0;
            for (int k = 0; k < KEYS; k++) {
                for (int c = 0; c < COLUMNS; c++) {
                    if (pickedSize < MOST_ALONE && now.isChanged(side, k, c)
                            && merged.result.hasRow(k) && merged.isMerged(side, c)) {
                        picked[pickedSize] = k * COLUMNS + c;
                        pickedSize++;
                    }
                }
            }
        }

        /** By rising bits, so that of those as good the least are found first. */
        void findAlone(State now, int side) {
            trial.copyFrom(now);
            int fewest = CONFLICT_IDS + 1;
            int most = 0;
            int best = 0;
            for (int bits = 0; bits < 1 << pickedSize; bits++) {
                leavePicked(now, side, bits);
                merge.run(trial);
                int cells = Integer.bitCount(bits);
                if (merge.size < fewest || merge.size == fewest && cells > most) {
                    fewest = merge.size;
                    most = cells;
                    best = bits;
                }
            }
            keepAnswer(ALONE + side, fewest, most, best);
        }

        private void leavePicked(State now, int side, int bits) {
            Table own = now.sideOf(side);
            Table tried = trial.sideOf(side);
            for (int i = 0; i < pickedSize && i < MOST_ALONE; i++) {
                int key = picked[i] / COLUMNS;
                int column = picked[i] % COLUMNS;
                boolean left = (bits >> i & 1) != 0;
                tried.putNumber(key, column, left ? own.numberAt(key, column) : now.baseCast(side, key, column));
            }
        }

        void findEdited(State now, Seen seen) {
            trial.copyFrom(now);
            merge.run(trial);
            int without = seen.isSo(merge.result) ? 1 : 0;
            int ways = 0;
            int first = NONE;
            for (int k = 0; k < KEYS; k++) {
                for (int c = 0; c < BASE_COLUMNS; c++) {
                    if (now.base.hasCell(k, c) && now.right.hasCell(k, c)) {
                        for (int number = -9; number <= 9; number++) {
                            if (wouldBeSo(now, seen, k, c, number)) {
                                ways++;
                                first = first == NONE ? 1000 * k + 100 * c + number + 50 : first;
                            }
                        }
                    }
                }
            }
            keepAnswer(EDITED, ways, first, without);
        }

        private boolean wouldBeSo(State now, Seen seen, int key, int column, int number) {
            int has = now.right.numberAt(key, column);
            if (number == has || !Types.holds(now.right.types[column], number)) {
                return false;
            }
            trial.right.putNumber(key, column, number);
            merge.run(trial);
            trial.right.putNumber(key, column, has);
            return seen.isSo(merge.result);
        }

        void findYears(State now, int firstSeed, int n) {
            trial.copyFrom(now);
            seed = firstSeed;
            int done = 0;
            for (int i = 0; i < n; i++) {
                if (passYear()) {
                    done++;
                }
            }
            merge.run(trial);
            keepAnswer(YEARS, done, merge.size, Integer.bitCount(merge.result.rows));
        }

        private boolean passYear() {
            int side = draw(2);
            int edit = draw(4);
            if (edit == RETYPING) {
                int column = draw(COLUMNS);
                return trial.doEdit(edit, side, column, draw(TYPES), 0) != NONE;
            }
            int key = draw(KEYS);
            if (edit != SETTING) {
                return trial.doEdit(edit, side, key, 0, 0) != NONE;
            }
            int column = draw(COLUMNS);
            return trial.doEdit(edit, side, key, column, draw(10)) != NONE;
        }

        private int draw(int n) {
            seed = seed * 1103515245 + 12345;
            return Math.floorMod(seed >> 16 & 0x7fff, Math.max(1, n));
        }
    }
}
