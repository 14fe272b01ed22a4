/** Promises 1 to 4: a new object, feed, tables, fault. */
public final class TextTest {
    private static final Check CHECK = new Check();

    public static void main(String[] args) {
        newObject();
        tapeFills();
        bytesInOrder();
        wrongLengths();
        allAnew();
        faultLeavesAll();
        goodTexts();
        faultsOne();
        faultsTwo();
        faultsThreeToFive();
        faultsSix();
        CHECK.end();
    }

    private static void newObject() {
        TableMerge x = new TableMerge();
        for (int what = 0; what <= 14; what++) {
            CHECK.is("new: count " + what, x.count(what), 0);
        }
        for (int table = 0; table < 4; table++) {
            CHECK.is("new: columns of " + table, x.table(table, 0), 0);
            CHECK.is("new: rows of " + table, x.table(table, 1), 0);
        }
        CHECK.is("new: fault", x.fault(), TableMerge.NONE);
        CHECK.no("new: restore", x.restore());
        CHECK.is("new: undo", x.undo(), -1);
        CHECK.is("new: commit", x.commit(), 0);
    }

    private static void tapeFills() {
        TableMerge x = new TableMerge();
        for (int i = 1; i <= 35; i++) {
            CHECK.is("feed " + i, x.feed(0x20202020, 0x20202020, 0x20202020, 0x20202020, 0x20202020), 20 * i);
        }
        CHECK.is("feed beyond 700", x.feed(0, 0, 0, 0, 0), -1);
        CHECK.is("tape as it was", x.count(11), 700);
        CHECK.is("a text of 700 blanks", x.tables(700), 0);
        CHECK.is("tape is empty then", x.count(11), 0);
        CHECK.is("feed again", x.feed(0, 0, 0, 0, 0), 20);
    }

    private static void bytesInOrder() {
        TableMerge x = new TableMerge();
        // "row 7;row 3;row 19;" and a byte that can't stand there
        x.feed(0x726f7720, 0x373b726f, 0x7720333b, 0x726f7720, 0x31393bff);
        CHECK.is("nineteen bytes", x.tables(19), 0);
        CHECK.is("rows by them", x.table(2, 1), 1 << 7 | 1 << 3 | 1 << 19);
        x.feed(0x726f7720, 0x373b726f, 0x7720333b, 0x726f7720, 0x31393bff);
        CHECK.is("twenty bytes", x.tables(20), 1);
        CHECK.is("at the last", x.fault(), 19);
    }

    private static void wrongLengths() {
        TableMerge x = new TableMerge();
        Check.feed(x, "row 1;");
        CHECK.illegal("tables(-1)", () -> x.tables(-1));
        CHECK.illegal("tables(21)", () -> x.tables(21));
        CHECK.illegal("tables(MAX)", () -> x.tables(Integer.MAX_VALUE));
        CHECK.is("the tape is as it was", x.count(11), 20);
        CHECK.is("no text was refused", x.count(12), 0);
        CHECK.is("tables(6)", x.tables(6), 0);
        CHECK.is("the rest of the tape is gone, too", x.count(11), 0);
        CHECK.is("a row", x.count(1), 1);
        Check.feed(x, "?");
        x.tables(1);
        CHECK.is("place of the fault", x.fault(), 0);
        CHECK.illegal("tables(1) of an empty tape", () -> x.tables(1));
        CHECK.is("the fault's place stays", x.fault(), 0);
        CHECK.is("tables(0)", x.tables(0), 0);
        CHECK.is("no fault now", x.fault(), -1);
        CHECK.is("nothing told", x.count(1), 0);
    }

    private static TableMerge busy() {
        TableMerge x = Check.told("column a number;row 1 5;left set 1 0 6;right set 1 0 7;");
        x.settle(5, 1, 0, 1);
        x.see(1, 0, 6);
        x.image();
        x.insert(0, 20);
        return x;
    }

    private static void allAnew() {
        TableMerge x = busy();
        Check.feed(x, "column b flag;row 2 1;row 3 _;");
        CHECK.is("tables anew", x.tables(30), 0);
        CHECK.is("choices are gone", x.count(6), 0);
        CHECK.is("acts are gone", x.count(9), 0);
        CHECK.is("seen is gone", x.count(10), 0);
        CHECK.is("the refused stay", x.count(13), 1);
        CHECK.no("the image is gone", x.restore());
        CHECK.is("nothing to undo", x.undo(), -1);
        CHECK.is("rows", x.table(3, 1), 12);
        CHECK.is("no conflict", x.count(5), 0);
    }

    private static void faultLeavesAll() {
        TableMerge x = busy();
        Check.feed(x, "column b flag;row 2 2;");
        CHECK.is("a fault", x.tables(22), 5);
        CHECK.is("its place", x.fault(), 20);
        CHECK.is("the tape is empty", x.count(11), 0);
        CHECK.is("texts refused", x.count(12), 1);
        CHECK.is("choices stay", x.count(6), 1);
        CHECK.is("acts stay", x.count(9), 1);
        CHECK.is("seen stays", x.count(10), 1);
        CHECK.is("cells stay", x.cell(3, 1, 0), 6);
        CHECK.yes("the image stays", x.restore());
    }

    private static void good(String text) {
        TableMerge x = new TableMerge();
        Check.feed(x, text);
        CHECK.is("'" + text + "'", x.tables(text.length()), 0);
        CHECK.is("fault of '" + text + "'", x.fault(), -1);
    }

    private static void goodTexts() {
        good("");
        good(" \n ");
        good("row1;row\n2\n;row03;row 0019;");
        good("column a number;row 1 - 0999;row 2-\n5;row 3 _;");
        good("column a digit;unique 0;column b even;needed 1;below 1 0;row 1 9 -998;unique 0;");
        good("column a flag;row 1 0;row 2 -0;row 3 0001;");
        good("column a even;row 1 998;row 2 -998;row 3 0;");
        good("row 0;left add z flag;left set 0 5 1;right delete 0;left drop 5;left add z flag;left set 0 6 0;");
        StringBuilder most = new StringBuilder();
        for (int i = 0; i < 5; i++) {
            most.append("column ").append((char) ('v' + i)).append(" flag;");
        }
        for (int i = 0; i < 4; i++) {
            most.append("below ").append(i).append(' ').append(i + 1).append(';');
        }
        for (int i = 0; i < 12; i++) {
            most.append("row ").append(i + 8).append(" _ 0 _ 1 _;");
        }
        good(most.toString());
    }

    /** The fault is due where the text has a '^', which is not fed. */
    private static void bad(int fault, String marked) {
        int place = marked.indexOf('^');
        String text = marked.replace("^", "");
        TableMerge x = new TableMerge();
        Check.feed(x, text);
        CHECK.is("'" + text + "'", x.tables(text.length()), fault);
        CHECK.is("place of the fault of '" + text + "'", x.fault(), place);
        CHECK.is("refused", x.count(12), 1);
        CHECK.is("nothing told", x.count(0) + x.count(1), 0);
    }

    private static void faultsOne() {
        bad(1, "^;");
        bad(1, "^columns a number;");
        bad(1, "^12345");
        bad(1, "column^");
        bad(1, "column a number  \n ^");
        bad(1, "column ^ab number;");
        bad(1, "column ^1 number;");
        bad(1, "column a ^numbers;");
        bad(1, "column a number^_;");
        bad(1, "column a number;^Row 1 1;");
        bad(1, "column a number;^\trow 1 1;");
        bad(1, "column a number;row 1^;");
        bad(1, "column a number;row 1 2 ^3;");
        bad(1, "column a number;row 1 -^_;");
        bad(1, "column a number;row 1 -^-1;");
        bad(1, "column a number;row 1 ^+1;");
        bad(1, "row ^-1;");
        bad(1, "row ^a;");
        bad(1, "row 1;^column a number;");
        bad(1, "left insert 1;^row 2;");
        bad(1, "left insert 1;^column a number;");
        bad(1, "column a number;right insert 1;^unique 0;");
        bad(1, "right ^insrt 1;");
        bad(1, "right insert 1 ^1;");
        bad(1, "left rename 0 ^bc;");
        bad(1, "left add a ^5;");
        bad(1, "left^");
        bad(1, "left set 1 ^_ 5;");
        bad(1, "column a flag;column b flag;column c flag;column d flag;column e flag;row 1 0 0 0 0 0;^column f flag;");
    }

    private static void faultsTwo() {
        bad(2, "row ^20;");
        bad(2, "row ^00001;");
        bad(2, "left insert ^20;");
        bad(2, "left set ^20 0 1;");
        bad(2, "left delete ^20;");
        bad(2, "left set 1 ^00000 1;");
        bad(2, "left drop ^12345;");
        bad(2, "column a number;row 1 ^1000;");
        bad(2, "column a digit;row 1 ^1000;");
        bad(2, "column a number;row 1 -^1000;");
        bad(2, "column a number;row 1 1;left set 1 0 -^1000;");
        bad(2, "column a number;unique ^00000;");
        bad(2, "column a flag;column b flag;column c flag;column d flag;column e flag;^column a flag;");
        bad(2, "column a flag;unique 0;unique 0;needed 0;needed 0;^needed 0;");
        bad(2, "row 0;row 1;row 2;row 3;row 4;row 5;row 6;row 7;row 8;row 9;row 10;row 11;^row 11;");
    }

    private static void faultsThreeToFive() {
        bad(3, "unique ^0;");
        bad(3, "column a flag;needed ^1;");
        bad(3, "column a flag;needed ^9999;");
        bad(3, "column a flag;column b flag;below ^2 2;");
        bad(3, "column a flag;column b flag;below 1 ^1;");
        bad(3, "column a flag;column b flag;below 1 ^2;");
        bad(4, "column a flag;column ^a number;");
        bad(4, "row 1;row ^01;");
        bad(4, "column a flag;column ^a error;");
        bad(5, "column a digit;row 1 ^10;");
        bad(5, "column a digit;row 1 ^-1;");
        bad(5, "column a even;row 1 ^- 3;");
        bad(5, "column a even;row 1 ^999;");
        bad(5, "column a flag;row 1 ^2;");
        bad(5, "column a number;column b flag;row 1 _ ^7 error");
    }

    private static void faultsSix() {
        bad(6, "^left delete 1;");
        bad(6, "row 1;^right insert 1;");
        bad(6, "column a number;row 1 5;^left set 1 0 5;");
        bad(6, "column a digit;row 1 5;^left set 1 0 -5;");
        bad(6, "column a digit;row 1 5;^left set 1 9999 5;");
        bad(6, "column a digit;row 1 5;^left set 2 0 5;");
        bad(6, "column a digit;row 1 5;left set 1 0 _;^left set 1 0 _;");
        bad(6, "column a digit;^left rename 0 a;");
        bad(6, "column a digit;column b digit;^left rename 0 b;");
        bad(6, "column a digit;^left retype 0 digit;");
        bad(6, "column a digit;^left add a flag;");
        bad(6, "left add a flag;left add b flag;^left add c flag;");
        bad(6, "left add a flag;left drop 5;left add a flag;left drop 6;^left add a flag;");
        bad(6, "left add a flag;^right drop 5;");
        bad(6, "^left drop 0;");
        bad(6, "row 0;row 1;row 2;row 3;row 4;row 5;row 6;row 7;row 8;row 9;row 10;row 11;^left insert 12;");
        bad(1, "left delete 1 ^left");
        bad(1, "left delete 1^");
    }
}
