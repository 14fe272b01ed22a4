import java.util.NoSuchElementException;

/** What the tests share: objects that were told a text, and answers held against what is due. */
final class Check {
    interface Call {
        int answer();
    }

    interface Ask {
        boolean answer();
    }

    private int wrong;
    private int asked;

    static void feed(TableMerge x, String text) {
        for (int i = 0; i < text.length(); i += 20) {
            int[] five = new int[5];
            for (int j = 0; j < 20; j++) {
                five[j / 4] = five[j / 4] << 8 | (i + j < text.length() ? text.charAt(i + j) : ' ') & 255;
            }
            x.feed(five[0], five[1], five[2], five[3], five[4]);
        }
    }

    static TableMerge told(String text) {
        TableMerge x = new TableMerge();
        feed(x, text);
        int fault = x.tables(text.length());
        if (fault != 0) {
            throw new IllegalStateException("fault " + fault + " at " + x.fault() + " of " + text);
        }
        return x;
    }

    void is(String label, int got, int want) {
        asked++;
        if (got != want) {
            wrong++;
            System.out.println(label + " answered " + got + ", due is " + want);
        }
    }

    void yes(String label, boolean got) {
        is(label, got ? 1 : 0, 1);
    }

    void no(String label, boolean got) {
        is(label, got ? 1 : 0, 0);
    }

    void noSuch(String label, Call call) {
        is(label + " throws (1 NoSuchElementException, 2 IllegalArgumentException, 0 nothing)", thrown(call), 1);
    }

    void noSuchSide(String label, Ask call) {
        noSuch(label, () -> call.answer() ? 1 : 0);
    }

    void illegal(String label, Call call) {
        is(label + " throws (1 NoSuchElementException, 2 IllegalArgumentException, 0 nothing)", thrown(call), 2);
    }

    private static int thrown(Call call) {
        try {
            call.answer();
            return 0;
        } catch (NoSuchElementException e) {
            return 1;
        } catch (IllegalArgumentException e) {
            return 2;
        }
    }

    /** The i-th CONFLICT is of this kind and these two numbers. */
    void conflict(TableMerge x, int i, int kind, int a, int b) {
        if (i >= x.count(5)) {
            is("conflicts, of which number " + i + " is wanted,", x.count(5), i + 1);
            return;
        }
        is("kind of conflict " + i, x.conflict(i, 0), kind);
        is("first number of conflict " + i, x.conflict(i, 1), a);
        is("second number of conflict " + i, x.conflict(i, 2), b);
    }

    void end() {
        System.out.println(asked + " answers, " + wrong + " not as due");
        System.exit(wrong == 0 && asked > 0 ? 0 : 1);
    }
}
