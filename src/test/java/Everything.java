import java.util.function.ToIntFunction;

/** All that can be asked for of an object without changing it, as one text: two objects alike have it alike. */
final class Everything {
    private final TableMerge x;
    private final StringBuilder all = new StringBuilder();
    private int calls;

    private Everything(TableMerge x) {
        this.x = x;
    }

    static String of(TableMerge x) {
        Everything asked = new Everything(x);
        asked.askAll(-1, 0);
        return asked.all.toString();
    }

    /** As of(), with a count that has more than it has: what is due, if a call was counted there. */
    static String withMore(TableMerge x, int count, int more) {
        Everything asked = new Everything(x);
        asked.askAll(count, more);
        return asked.all.toString();
    }

    static int callsOf(TableMerge x) {
        Everything asked = new Everything(x);
        asked.askAll(-1, 0);
        return asked.calls;
    }

    private void note(String label, ToIntFunction<TableMerge> call, int more) {
        calls++;
        all.append(label).append('=').append(call.applyAsInt(x) + more).append('\n');
    }

    private void note(String label, ToIntFunction<TableMerge> call) {
        note(label, call, 0);
    }

    private void askAll(int counted, int more) {
        for (int what = 0; what <= 14; what++) {
            int asked = what;
            note("count " + what, y -> y.count(asked), what == counted ? more : 0);
        }
        note("fault", TableMerge::fault);
        for (int table = 0; table < 4; table++) {
            askTable(table);
        }
        askConflicts();
        askQuestions();
    }

    private void askTable(int table) {
        note("columns of " + table, y -> y.table(table, 0));
        note("rows of " + table, y -> y.table(table, 1));
        int columns = x.table(table, 0);
        int rows = x.table(table, 1);
        for (int c = 0; c < 9; c++) {
            if ((columns >> c & 1) != 0) {
                int column = c;
                note("name of " + table + " " + c, y -> y.column(table, column, 0));
                note("type of " + table + " " + c, y -> y.column(table, column, 1));
                for (int k = 0; k < 20; k++) {
                    if ((rows >> k & 1) != 0) {
                        int key = k;
                        note("cell of " + table + " " + k + " " + c, y -> y.cell(table, key, column));
                        if (table == 3) {
                            note("whose " + k + " " + c, y -> y.whose(key, column));
                        }
                    }
                }
            }
        }
    }

    private void askConflicts() {
        int conflicts = x.count(5);
        for (int i = 0; i < conflicts; i++) {
            for (int what = 0; what <= 5; what++) {
                int at = i;
                int asked = what;
                note("conflict " + i + " " + what, y -> y.conflict(at, asked));
            }
        }
    }

    private void askQuestions() {
        for (int what = 0; what < 7; what++) {
            int asked = what;
            note("difference of 0, " + what, y -> y.difference(0, asked));
            note("difference of 1, " + what, y -> y.difference(1, asked));
        }
        for (int what = 0; what < 3; what++) {
            int asked = what;
            note("along 0, " + what, y -> y.along(0, asked));
            note("along 1, " + what, y -> y.along(1, asked));
            note("along 2, " + what, y -> y.along(2, asked));
            note("alone 0, " + what, y -> y.alone(0, asked));
            note("alone 1, " + what, y -> y.alone(1, asked));
            note("edited " + what, y -> y.edited(asked));
            note("years " + what, y -> y.years(11, 40, asked));
        }
    }
}
