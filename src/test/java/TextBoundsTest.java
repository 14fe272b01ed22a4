/** The bounds of promises 1 to 4 and of TEXT and FAULTS: one method for each sentence, at both sides of its bound. */
public final class TextBoundsTest {
    private static final Check CHECK = new Check();
    private static final String FIVE = "column a number;column b digit;column c even;column d flag;column z number;";

    public static void main(String[] args) {
        nothingInANewObject();
        highestByteFirst();
        sevenHundredBytes();
        longestText();
        firstBytesAlone();
        tapeIsEmptyThen();
        faultIsOfTheLatest();
        everyByte();
        longestRowOfLetters();
        digitsOfANumber();
        blanksBetween();
        names();
        types();
        sixthColumn();
        thirteenthRow();
        fifthDemand();
        keys();
        cellsOfARow();
        asManyCellsAsColumns();
        cellsThatTypesHold();
        order();
        endsTooSoon();
        demandedColumns();
        whatIsThere();
        leastOfOneToken();
        firstAlongTheText();
        editsWhenRead();
        editsOfAllKinds();
        rowsOfASide();
        CHECK.end();
    }

    private static void good(String text) {
        TableMerge x = new TableMerge();
        Check.feed(x, text);
        CHECK.is("'" + text + "'", x.tables(text.length()), 0);
        CHECK.is("fault of '" + text + "'", x.fault(), TableMerge.NONE);
        CHECK.is("refused, of '" + text + "'", x.count(12), 0);
    }

    private static void bad(String text, int fault, int place) {
        TableMerge x = new TableMerge();
        Check.feed(x, text);
        CHECK.is("'" + text + "'", x.tables(text.length()), fault);
        CHECK.is("place of the fault of '" + text + "'", x.fault(), place);
        CHECK.is("refused, of '" + text + "'", x.count(12), 1);
        CHECK.is("told by '" + text + "'", x.count(0) + x.count(1) + x.count(2) + x.count(3) + x.count(4), 0);
    }

    /** The fault is due where the text has a '^', which is not fed. */
    private static void bad(int fault, String marked) {
        bad(marked.replace("^", ""), fault, marked.indexOf('^'));
    }

    /** "No COLUMNS, no ROWS." */
    private static void nothingInANewObject() {
        TableMerge x = new TableMerge();
        for (int table = 0; table < 4; table++) {
            int t = table;
            CHECK.is("columns", x.table(t, 0), 0);
            CHECK.is("rows", x.table(t, 1), 0);
            for (int n = 0; n < 20; n++) {
                int key = n;
                CHECK.noSuch("cell of " + t + " " + key, () -> x.cell(t, key, key % 9));
            }
            for (int c = 0; c < 9; c++) {
                int column = c;
                CHECK.noSuch("column of " + t + " " + column, () -> x.column(t, column, 0));
            }
        }
        for (int what = 0; what <= 14; what++) {
            CHECK.is("count " + what, x.count(what), 0);
        }
        CHECK.is("fault", x.fault(), -1);
        CHECK.noSuch("conflict", () -> x.conflict(0, 0));
        CHECK.noSuch("whose", () -> x.whose(0, 0));
    }

    /** "Twenty bytes come behind the tape, of each number the highest first." */
    private static void highestByteFirst() {
        String marks = "row 1;row 2;row 19;;";
        int[] five = new int[5];
        for (int i = 0; i < 20; i++) {
            five[i / 4] |= marks.charAt(i) << 24 - 8 * (i % 4);
        }
        TableMerge x = new TableMerge();
        CHECK.is("twenty bytes", x.feed(five[0], five[1], five[2], five[3], five[4]), 20);
        CHECK.is("read in order", x.tables(19), 0);
        CHECK.is("rows", x.table(2, 1), 1 << 1 | 1 << 2 | 1 << 19);
        for (int at = 0; at < 20; at++) {
            int[] blank = {0x20202020, 0x20202020, 0x20202020, 0x20202020, 0x20202020};
            blank[at / 4] ^= 0xff << 24 - 8 * (at % 4);
            TableMerge y = new TableMerge();
            y.feed(0x20202020, 0x20202020, 0x20202020, 0x20202020, 0x20202020);
            y.feed(blank[0], blank[1], blank[2], blank[3], blank[4]);
            CHECK.is("a byte that is no token", y.tables(40), 1);
            CHECK.is("its place, behind the tape", y.fault(), 20 + at);
        }
    }

    /** "NONE, and none come, if it would have more than 700." */
    private static void sevenHundredBytes() {
        TableMerge x = new TableMerge();
        for (int n = 20; n <= 700; n += 20) {
            CHECK.is("feed", x.feed(0x0a0a0a0a, 0x0a0a0a0a, 0x0a0a0a0a, 0x0a0a0a0a, 0x0a0a0a0a), n);
            CHECK.is("bytes", x.count(11), n);
        }
        for (int i = 0; i < 3; i++) {
            CHECK.is("beyond", x.feed(-1, -1, -1, -1, -1), -1);
            CHECK.is("bytes", x.count(11), 700);
        }
        CHECK.illegal("701", () -> x.tables(701));
        CHECK.is("all blanks still", x.tables(700), 0);
        CHECK.is("no fault", x.fault(), -1);
        CHECK.is("refused: none of these", x.count(12) + x.count(13) + x.count(14), 0);
    }

    /** "A TEXT of at most 700 bytes tells it": the last byte counts. */
    private static void longestText() {
        StringBuilder text = new StringBuilder();
        while (text.length() < 693) {
            text.append(text.length() % 2 == 0 ? ' ' : '\n');
        }
        text.append("row 19;");
        TableMerge x = new TableMerge();
        Check.feed(x, text.toString());
        CHECK.is("bytes", x.count(11), 700);
        CHECK.is("700 bytes", x.tables(700), 0);
        CHECK.is("its row", x.table(2, 1), 1 << 19);
        text.setCharAt(699, ' ');
        bad(text.toString(), 1, 700);
        text.setCharAt(699, '1');
        bad(text.toString(), 2, 697);
        text.setCharAt(699, '_');
        bad(text.toString(), 1, 699);
    }

    /** "The tape's first n bytes are a TEXT": what stands behind them counts for nothing. */
    private static void firstBytesAlone() {
        TableMerge x = new TableMerge();
        Check.feed(x, "row 12;row 12;");
        CHECK.is("seven", x.tables(7), 0);
        CHECK.is("one row", x.table(2, 1), 1 << 12);
        for (int n = 1; n <= 6; n++) {
            Check.feed(x, "row 12;row 12;");
            CHECK.is(n + " bytes", x.tables(n), 1);
            CHECK.is("its place", x.fault(), n < 3 ? 0 : n);
        }
        Check.feed(x, "row 12;row 12;");
        CHECK.is("fourteen", x.tables(14), 4);
        Check.feed(x, "row 1;row 12345;");
        CHECK.is("a number cut off at four digits", x.tables(14), 2);
        Check.feed(x, "row 1;row 1");
        CHECK.is("none", x.tables(0), 0);
        CHECK.is("no row", x.count(1), 0);
    }

    /** "(it is empty then)", and "all anew": no byte and nothing told comes again. */
    private static void tapeIsEmptyThen() {
        TableMerge x = new TableMerge();
        Check.feed(x, "column a number;row 1 5;unique 0;left insert 2;right add b flag;");
        CHECK.is("told", x.tables(64), 0);
        CHECK.is("bytes", x.count(11), 0);
        CHECK.illegal("none left", () -> x.tables(1));
        CHECK.is("feed begins anew", x.feed(0x726f7720, 0x333b2020, 0x20202020, 0x20202020, 0x20202020), 20);
        CHECK.is("told", x.tables(20), 0);
        CHECK.is("columns", x.table(0, 0) + x.table(1, 0) + x.table(2, 0) + x.table(3, 0), 0);
        for (int table = 0; table < 4; table++) {
            CHECK.is("rows of " + table, x.table(table, 1), 8);
        }
        CHECK.is("demands", x.count(2), 0);
        CHECK.is("RIGHT's first column was never had", x.add(1, 0, 0), 7);
        Check.feed(x, "row 5;row 5;");
        CHECK.is("a fault", x.tables(12), 4);
        CHECK.is("bytes behind a fault", x.count(11), 0);
    }

    /** "The place of the latest tables()'s FAULT; NONE without." */
    private static void faultIsOfTheLatest() {
        TableMerge x = new TableMerge();
        CHECK.is("never told", x.fault(), -1);
        Check.feed(x, ";");
        x.tables(1);
        CHECK.is("at 0", x.fault(), 0);
        Check.feed(x, "row 1;row 20;");
        CHECK.illegal("too long", () -> x.tables(21));
        CHECK.is("at 0 still", x.fault(), 0);
        x.tables(13);
        CHECK.is("at 10", x.fault(), 10);
        x.insert(0, 1);
        x.insert(0, 1);
        x.undo();
        CHECK.is("at 10 still", x.fault(), 10);
        x.tables(0);
        CHECK.is("without", x.fault(), -1);
        CHECK.is("texts refused", x.count(12), 2);
    }

    /** "TOKENS: words (a .. z), NUMBERS, signs ; - _ ; blanks (32, 10)": each of the 256 bytes. */
    private static void everyByte() {
        for (int one = 0; one < 256; one++) {
            TableMerge x = new TableMerge();
            Check.feed(x, "row 1" + (char) one + "5;");
            int fault = x.tables(7);
            boolean digit = one >= '0' && one <= '9';
            int due = digit ? 2 : 1;
            int place = digit ? 4 : one == ' ' || one == '\n' || one == ';' ? 6 : 5;
            CHECK.is("byte " + one + " in a row", fault, due);
            CHECK.is("byte " + one + " in a row: place", x.fault(), place);
            TableMerge y = new TableMerge();
            Check.feed(y, (char) one + "row 1;");
            boolean blank = one == ' ' || one == '\n';
            CHECK.is("byte " + one + " ahead", y.tables(7), blank ? 0 : 1);
            CHECK.is("byte " + one + " ahead: place", y.fault(), blank ? -1 : 0);
            TableMerge z = new TableMerge();
            Check.feed(z, "row" + (char) one + "1;");
            boolean letter = one >= 'a' && one <= 'z';
            CHECK.is("byte " + one + " behind 'row'", z.tables(6), blank ? 0 : digit && one < '2' ? 0 : digit ? 2 : 1);
            CHECK.is("byte " + one + " behind 'row': place", z.fault(), blank || one == '0' || one == '1' ? -1 : letter ? 0 : 3);
        }
    }

    /** "words (a .. z, the longest row)". */
    private static void longestRowOfLetters() {
        bad(1, "^rowrow 1;");
        bad(1, "^columna number;");
        bad(1, "column ^anumber;");
        bad(1, "column a ^numbernumber;");
        bad(1, "column a ^numbe");
        bad(1, "column a ^numbe;");
        bad(1, "^ro w 1;");
        bad(1, "^leftinsert 1;");
        bad(1, "left ^insertx 1;");
        bad(1, "^Row 1;");
        bad(1, "column ^A number;");
        good("column a number;row1_;row 2-5;row3 7;left set1 0 5;left set 2 0_;left delete3;");
    }

    /** "NUMBERS (1 to 4 digits)"; "a NUMBER of 5 digits or more": wherever one can stand. */
    private static void digitsOfANumber() {
        good("row 0;row 01;row 002;row 0003;");
        bad(2, "row ^00004;");
        bad(2, "row ^0000000000000000000000000000000000000004;");
        good("column a number;row 0 1;row 1 01;row 2 001;row 3 0001;row 4 -0999;");
        bad(2, "column a number;row 1 ^00001;");
        bad(2, "column a number;row 1 -^00001;");
        good("column a number;column b number;unique 0000;needed 001;below 0000 0001;");
        bad(2, "column a number;unique ^00000;");
        bad(2, "column a number;needed ^00000;");
        bad(2, "column a number;column b number;below ^00000 1;");
        bad(2, "column a number;column b number;below 0 ^00001;");
        good("column a number;row 0 1;left set 0000 0000 0002;left delete 0000;left retype 0000 flag;left rename 0000 b;left drop 0000;");
        bad(2, "column a number;row 0 1;left set ^00000 0 2;");
        bad(2, "column a number;row 0 1;left set 0 ^00000 2;");
        bad(2, "column a number;row 0 1;left set 0 0 ^00002;");
        bad(2, "left insert ^00000;");
        bad(2, "row 0;left delete ^00000;");
        bad(2, "column a number;left rename ^00000 b;");
        bad(2, "column a number;left retype ^00000 flag;");
        bad(2, "column a number;left drop ^00000;");
        bad(2, "row ^2147483648;");
        bad(2, "row ^4294967296;");
        bad(2, "column a number;left drop ^4294967296;");
    }

    /** "blanks (32, 10) between them count for nothing". */
    private static void blanksBetween() {
        good("");
        good(" ");
        good("\n\n  \n");
        good("\n column \n a \n number \n ; \n row \n 1 \n - \n 5 \n ; \n left \n set \n 1 \n 0 \n _ \n ; \n ");
        good("column a number;row1-5;left set1 0_;");
        bad(1, "column a number;row 1 5 ^5;");
        bad(1, "row 1^\t;");
        bad(1, "row 1^\r;");
        bad(1, "row 1^\0;");
    }

    /** "NAME: a word of one letter", 0 'a' to 25 'z'. */
    private static void names() {
        for (char name = 'a'; name <= 'z'; name++) {
            TableMerge x = Check.told("column " + name + " number;");
            CHECK.is("name " + name, x.column(2, 0, 0), name - 'a');
            TableMerge y = Check.told("left add " + name + " flag;");
            CHECK.is("added name " + name, y.column(0, 5, 0), name - 'a');
            if (name != 'b') {
                TableMerge z = Check.told("column b number;right rename 0 " + name + ";");
                CHECK.is("renamed " + name, z.column(1, 0, 0), name - 'a');
            }
        }
        bad(1, "column ^aa number;");
        bad(1, "column ^` number;");
        bad(1, "column ^{ number;");
        bad(1, "column ^0 number;");
        bad(1, "column ^_ number;");
        bad(1, "column ^;");
        bad(1, "left add ^zz flag;");
        bad(1, "left add ^1 flag;");
        bad(1, "column a number;left rename 0 ^ab;");
        bad(1, "column a number;left rename 0 ^1;");
        bad(1, "column a number;left rename 0 ^;");
    }

    /** "TYPE: 'number' | 'digit' | 'even' | 'flag'", 0 to 3. */
    private static void types() {
        String[] types = {"number", "digit", "even", "flag"};
        for (int t = 0; t < 4; t++) {
            CHECK.is("type", Check.told("column a " + types[t] + ";").column(2, 0, 1), t);
            CHECK.is("added type", Check.told("right add a " + types[t] + ";").column(1, 7, 1), t);
            String other = types[(t + 1) % 4];
            CHECK.is("retyped", Check.told("column a " + other + ";left retype 0 " + types[t] + ";").column(0, 0, 1), t);
            bad(1, "column a ^" + types[t] + "s;");
            bad(1, "column a ^" + types[t].substring(1) + ";");
        }
        bad(1, "column a ^0;");
        bad(1, "column a ^;");
        bad(1, "left add a ^0;");
        bad(1, "column a number;left retype 0 ^1;");
    }

    /** "those of the BASE 0, 1 .. (at most 5)"; "the first TOKEN of the 6th 'column'". */
    private static void sixthColumn() {
        TableMerge x = Check.told(FIVE);
        CHECK.is("five columns", x.table(2, 0), 31);
        CHECK.is("the last one's name", x.column(2, 4, 0), 25);
        CHECK.is("both sides have them", x.table(0, 0) + x.table(1, 0), 62);
        bad(2, FIVE + "^column e flag;");
        bad(2, FIVE + "^column");
        bad(2, FIVE + "unique 4;^column a wrong");
        bad(1, FIVE + "row 1 1 1 2 1 1;^column e flag;");
    }

    /** "at most 12 ROWS in the BASE"; "the 13th 'row'". */
    private static void thirteenthRow() {
        StringBuilder twelve = new StringBuilder();
        for (int k = 0; k < 12; k++) {
            twelve.append("row ").append(19 - k).append(';');
        }
        TableMerge x = Check.told(twelve.toString());
        CHECK.is("twelve rows", x.count(1), 12);
        CHECK.is("their keys", x.table(2, 1), 0xfff << 8);
        bad(2, twelve + "^row 1;");
        bad(2, twelve + "^row 19;");
        bad(2, twelve + "^row");
        good(twelve + "left delete 19;left insert 1;right delete 8;");
        bad(1, twelve + "left delete 19;^row 1;");
    }

    /** "DEMANDS 0, 1 .. (at most 4)"; "the 5th DEMAND". */
    private static void fifthDemand() {
        String two = "column a number;column b number;";
        for (String demand : new String[] {"unique 0;", "needed 1;", "below 0 1;", "below 1 0;"}) {
            String four = demand + demand + demand + demand;
            CHECK.is("four of " + demand, Check.told(two + four).count(2), 4);
            CHECK.is("three of " + demand, Check.told(two + demand + demand + demand).count(2), 3);
            bad(2, two + four + "^unique 0;");
            bad(2, two + four + "^needed 0;");
            bad(2, two + four + "^below 0 1;");
            bad(2, two + four + "^" + demand);
        }
        good(two + "unique 0;row 1 1 1;needed 0;row 2 2 2;below 0 1;row 3 3 3;unique 1;");
        bad(2, two + "unique 0;row 1 1 1;needed 0;row 2 2 2;below 0 1;row 3 3 3;unique 1;^unique 1;");
    }

    /** "KEY (0 to 19)"; "KEY above 19". */
    private static void keys() {
        good("row 0;row 19;left delete 0;left insert 0;right delete 19;right insert 19;");
        for (String above : new String[] {"20", "21", "99", "100", "0020", "9999"}) {
            bad(2, "row ^" + above + ";");
            bad(2, "left insert ^" + above + ";");
            bad(2, "right delete ^" + above + ";");
            bad(2, "right set ^" + above + " 0 1;");
        }
        bad(1, "row ^-1;");
        bad(1, "left insert ^-1;");
        bad(1, "left delete ^-1;");
        bad(1, "left set ^-1 0 0;");
        bad(1, "row ^_;");
        bad(1, "row ^;");
        bad(1, "row ^a;");
    }

    /** "CELL: '_' (EMPTY) | ['-'] NUMBER"; "CELL (at its NUMBER) above 999". */
    private static void cellsOfARow() {
        TableMerge x = Check.told("column a number;row 0 999;row 1 -999;row 2 _;row 3 0;row 4 -0;row 5 - 1;");
        int[] due = {999, -999, TableMerge.EMPTY, 0, 0, -1};
        for (int k = 0; k < 6; k++) {
            CHECK.is("cell of " + k, x.cell(2, k, 0), due[k]);
        }
        for (String above : new String[] {"1000", "1001", "9998", "9999"}) {
            bad(2, "column a number;row 1 ^" + above + ";");
            bad(2, "column a number;row 1 -^" + above + ";");
            bad(2, "column a number;row 1 0;left set 1 0 ^" + above + ";");
            bad(2, "column a number;row 1 0;left set 1 0 -^" + above + ";");
            bad(2, "column a flag;row 1 0;right set 1 0 - ^" + above + ";");
        }
        bad(1, "column a number;row 1 -^_;");
        bad(1, "column a number;row 1 -^-1;");
        bad(1, "column a number;row 1 -^;");
        bad(1, "column a number;row 1 -^");
        bad(1, "column a number;row 1 ^a;");
        bad(1, "column a number;row 1 0;left set 1 0 -^_;");
        bad(1, "column a number;row 1 0;left set 1 0 ^;");
        TableMerge y = Check.told("column a number;row 1 0;row 2 0;row 3 0;left set 1 0 999;left set 2 0 -999;left set 3 0 _;");
        CHECK.is("set 999", y.cell(0, 1, 0), 999);
        CHECK.is("set -999", y.cell(0, 2, 0), -999);
        CHECK.is("set EMPTY", y.cell(0, 3, 0), TableMerge.EMPTY);
    }

    /** "A ROW has as many CELLS as COLUMNS are told." */
    private static void asManyCellsAsColumns() {
        String columns = "";
        String cells = "";
        for (int n = 0; n <= 5; n++) {
            good(columns + "row 7" + cells + ";");
            bad(1, columns + "row 7" + cells + " ^1;");
            bad(1, columns + "row 7" + cells + " ^_;");
            bad(1, columns + "row 7" + cells + " ^-1;");
            if (n > 0) {
                bad(1, columns + "row 7" + cells.substring(2) + "^;");
                bad(1, columns + "row 7^;");
            }
            columns += "column " + (char) ('p' + n) + " number;";
            cells += " 1";
        }
    }

    /** "a CELL of a 'row' (at its first TOKEN) that its TYPE doesn't hold". */
    private static void cellsThatTypesHold() {
        good("column a digit;row 1 0;row 2 9;row 3 _;row 4 -0;");
        bad(5, "column a digit;row 1 ^10;");
        bad(5, "column a digit;row 1 ^-1;");
        bad(5, "column a digit;row 1 ^- 999;");
        bad(5, "column a digit;row 1 ^999;");
        good("column a even;row 1 998;row 2 -998;row 3 0;row 4 2;row 5 -2;row 6 _;");
        bad(5, "column a even;row 1 ^999;");
        bad(5, "column a even;row 1 ^-999;");
        bad(5, "column a even;row 1 ^1;");
        bad(5, "column a even;row 1 ^-1;");
        bad(5, "column a even;row 1 ^997;");
        good("column a flag;row 1 0;row 2 1;row 3 _;row 4 -0;");
        bad(5, "column a flag;row 1 ^2;");
        bad(5, "column a flag;row 1 ^-1;");
        bad(5, "column a flag;row 1 ^- 1;");
        bad(5, "column a number;column b flag;row 1 -5 ^-1;");
        bad(5, "column a number;column b flag;column c flag;row 1 -5 1 ^2;");
    }

    /** "'column' behind a 'row', 'column', 'row', a DEMAND behind a 'left' or 'right'". */
    private static void order() {
        good("column a number;unique 0;column b number;below 0 1;row 1 1 2;needed 0;row 2 3 4;left insert 5;right insert 6;left insert 7;");
        bad(1, "row 1;^column a number;");
        bad(1, "column b number;row 1 1;unique 0;^column a number;");
        for (String side : new String[] {"left", "right"}) {
            bad(1, "column a number;" + side + " insert 1;^column b number;");
            bad(1, "column a number;" + side + " insert 1;^row 2 1;");
            bad(1, "column a number;" + side + " insert 1;^unique 0;");
            bad(1, "column a number;" + side + " insert 1;^needed 0;");
            bad(1, "column a number;column b number;" + side + " insert 1;^below 0 1;");
        }
    }

    /** "the text's length where it ends too soon": of every text that is cut off within a line. */
    private static void endsTooSoon() {
        String[] lines = {"column a number;", "row 1 - 5;", "row 2 _;", "unique 0;", "needed 0;", "below 0 1;", "left set 1 0 - 7;", "right insert 9;",
            "left delete 1;", "left rename 0 c;", "right retype 0 flag;", "left add d even;", "right drop 0;"};
        for (String line : lines) {
            String ahead = line.startsWith("column") ? "" : line.startsWith("below") ? "column a number;column b number;" : "column a number;";
            if (line.startsWith("left") || line.startsWith("right")) {
                ahead += "row 1 1;";
            }
            good(ahead + line);
            for (int cut = 1; cut < line.length(); cut++) {
                String text = ahead + line.substring(0, cut);
                boolean betweenTokens = line.charAt(cut) == ' ' || line.charAt(cut) == ';' || line.charAt(cut - 1) == ' ';
                if (betweenTokens) {
                    bad(text, 1, text.length());
                    bad(text + " \n ", 1, text.length() + 3);
                }
            }
        }
    }

    /** "a COLUMN of a DEMAND that isn't told (also both alike, at the second one)". */
    private static void demandedColumns() {
        bad(3, "unique ^0;");
        bad(3, "unique ^0;column a number;");
        good("column a number;unique 0;");
        bad(3, "column a number;unique ^1;");
        bad(3, "column a number;needed ^1;");
        good(FIVE + "unique 4;needed 4;below 4 0;below 0 4;");
        bad(3, FIVE + "unique ^5;");
        bad(3, FIVE + "needed ^5;");
        bad(3, FIVE + "below ^5 0;");
        bad(3, FIVE + "below 0 ^5;");
        bad(3, FIVE + "unique ^9999;");
        bad(3, FIVE + "unique ^32;");
        bad(3, FIVE + "below 0 ^0;");
        bad(3, FIVE + "below 4 ^4;");
        bad(3, FIVE + "below ^9 9;");
        bad(1, FIVE + "below 1 ^;");
        bad(1, FIVE + "unique 1 ^2;");
        bad(1, FIVE + "unique ^-1;");
        bad(1, FIVE + "unique ^a;");
        bad(1, FIVE + "unique ^_;");
    }

    /** "a NAME, a KEY of a 'row' that is there". */
    private static void whatIsThere() {
        bad(4, "column a number;column ^a number;");
        bad(4, "column a number;column b flag;column ^a digit;");
        bad(4, "column a number;column b flag;column ^b digit;");
        good("column a number;column b number;");
        bad(4, "row 1;row ^1;");
        bad(4, "row 0;row ^0;");
        bad(4, "row 19;row 2;row ^0019;");
        bad(4, "column a number;row 1 1;row ^1 2;");
    }

    /** "of one TOKEN the least". */
    private static void leastOfOneToken() {
        bad(1, "^12345;");
        bad(1, "column ^12345 number;");
        bad(1, "row 1 ^12345;");
        bad(2, "column a digit;row 1 ^1000;");
        bad(2, "column a flag;row 1 ^12345;");
        bad(2, "unique ^12345;");
        StringBuilder full = new StringBuilder("column a flag;column b flag;column c flag;column d flag;column e flag;unique 0;unique 0;unique 0;unique 0;");
        for (int k = 0; k < 12; k++) {
            full.append("row ").append(k).append(" _ _ _ _ _;");
        }
        bad(2, full + "^row 1 _ _ _ _ _;");
        bad(1, full + "^column a flag;");
        bad(1, full + "left delete 1;^row 1;");
        bad(1, full + "left delete 1;^unique 7;");
        bad(1, full + "left delete 1;^column a flag;");
    }

    /** "FAULTS, the first along the text". */
    private static void firstAlongTheText() {
        bad(5, "column a digit;row 1 ^10 ?");
        bad(1, "column a digit;row 1 1 ^? 10;");
        bad(4, "row 1;row ^1;row 20;");
        bad(2, "row 1;row ^20;row 1;");
        bad(3, "unique ^0;column a flag;row 1 5;");
        bad(4, "column a flag;column ^a ?");
        bad(6, "^left delete 1;row 1;");
        bad(6, "^left delete 1;left insert 20;");
        bad(6, "left insert 1;^left insert 1;left insert 1;");
    }

    /** "6 (at 'left', 'right', when its ';' is read) an EDIT that can't be done". */
    private static void editsWhenRead() {
        bad(6, "  ^left delete 1;");
        bad(6, "  ^right delete 1;");
        bad(1, "left delete 1^");
        bad(1, "left delete 1 ^1;");
        bad(1, "left delete 1 ^row");
        bad(1, "left set 1 0^;");
        bad(2, "left set 1 0 ^1000;");
        bad(2, "left set 1 0 -^1000;");
        bad(1, "left rename 5 ^5;");
        bad(1, "left ^;");
        bad(1, "left ^left insert 1;");
        bad(1, "left ^unique 0;");
        bad(1, "row 1;left ^1;");
        bad(1, "row 1;right ^1 1 1;");
        bad(1, "row 1;left ^-1;");
        good("row 1;left delete 1;left insert 1;left delete 1;right delete 1;");
        bad(6, "row 1;left delete 1;left insert 1;left delete 1;^left delete 1;");
    }

    /** "(by its CELL, too, a COLUMN that there isn't, however great)". */
    private static void editsOfAllKinds() {
        String told = "column a digit;column b even;row 1 5 4;";
        for (String side : new String[] {"left", "right"}) {
            good(told + side + " set 1 0 9;");
            bad(6, told + "^" + side + " set 1 0 10;");
            bad(6, told + "^" + side + " set 1 0 -1;");
            bad(6, told + "^" + side + " set 1 0 999;");
            bad(6, told + "^" + side + " set 1 0 5;");
            bad(6, told + "^" + side + " set 1 1 999;");
            bad(6, told + "^" + side + " set 1 1 -999;");
            good(told + side + " set 1 1 -998;");
            for (String column : new String[] {"2", "4", "5", "7", "8", "9", "31", "32", "33", "64", "999", "9999"}) {
                bad(6, told + "^" + side + " set 1 " + column + " 1;");
                bad(6, told + "^" + side + " rename " + column + " c;");
                bad(6, told + "^" + side + " retype " + column + " flag;");
                bad(6, told + "^" + side + " drop " + column + ";");
            }
            bad(6, told + "^" + side + " set 2 0 1;");
            bad(6, told + "^" + side + " insert 1;");
            bad(6, told + "^" + side + " delete 0;");
            bad(6, told + "^" + side + " rename 0 a;");
            bad(6, told + "^" + side + " rename 0 b;");
            bad(6, told + "^" + side + " retype 0 digit;");
            bad(6, told + "^" + side + " add a flag;");
            good(told + side + " add c flag;" + side + " add d flag;");
            bad(6, told + side + " add c flag;" + side + " add d flag;^" + side + " add e flag;");
        }
        bad(6, told + "left add c flag;^left add c digit;");
        good(told + "left add c flag;right add c digit;left set 1 5 1;right set 1 7 9;");
        bad(6, told + "left add c flag;^right set 1 5 1;");
        bad(6, told + "right add c flag;^left set 1 7 1;");
        bad(6, told + "left add c flag;^left set 1 6 1;");
        bad(6, told + "left drop 0;^left drop 0;");
        good(told + "left drop 0;right drop 0;left add a flag;left set 1 5 0;");
        bad(6, told + "left drop 0;^left set 1 0 1;");
    }

    /** "fewer than 12", in a side that a TEXT tells of. */
    private static void rowsOfASide() {
        StringBuilder text = new StringBuilder();
        for (int k = 0; k < 11; k++) {
            text.append("row ").append(k).append(';');
        }
        good(text + "left insert 11;right insert 19;");
        bad(6, text + "left insert 11;^left insert 12;");
        good(text + "left insert 11;left delete 0;left insert 12;");
        bad(6, text + "left insert 11;left delete 0;left insert 12;^left insert 0;");
    }
}
