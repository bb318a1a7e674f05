import java.time.YearMonth;

/** Promises 10 to 15: used, score, many, width, cell and signAt. */
public final class ReadingTest {
    private static final Class<IllegalArgumentException> BAD_ARGUMENT = IllegalArgumentException.class;
    private static final Class<IndexOutOfBoundsException> NO_SUCH = IndexOutOfBoundsException.class;
    private static final Check check = new Check("ReadingTest");

    public static void main(String[] args) {
        usedParter();
        usedMark();
        usedHeading();
        score();
        many();
        rowsAndWidths();
        limitsOfRows();
        quotedCells();
        spaces();
        kindsAndValues();
        decimalsWithEachMark();
        dates();
        allMonths();
        cellAsksInOrder();
        signAt();
        check.end();
    }

    private static Tallow parted(String text, int parter) {
        Tallow importer = Check.of(text);
        importer.tell(0, parter);
        return importer;
    }

    private static void usedParter() {
        check.same("parter of commas", Check.of("a,b\nc,d").used(0), 0);
        check.same("parter of semicolons", Check.of("a;b\nc;d").used(0), 1);
        check.same("parter of tabs", Check.of("a\tb\nc\td").used(0), 2);
        check.same("parter of bars", Check.of("a|b\nc|d").used(0), 3);
        check.same("of several the smallest parter", Check.of("a|b;c\nd|e;f").used(0), 1);
        check.same("more columns score more", Check.of("a|b|c;d\ne|f|g;h").used(0), 3);
        check.same("without columns the smallest parter", Check.of("abc").used(0), 0);
        check.same("a parter told without rows", parted("", 2).used(0), 2);
        Tallow importer = new Tallow();
        for (int what : new int[] {-1, 3, Integer.MIN_VALUE, Integer.MAX_VALUE}) {
            check.fails("used(" + what + ")", importer, BAD_ARGUMENT, () -> importer.used(what));
        }
    }

    private static void usedMark() {
        check.same("mark of commas", Check.of("1,5;2,5\n3.5;a").used(1), 1);
        check.same("mark of as many points", Check.of("1,5;2.5\n3.5;4,5").used(1), 0);
        check.same("mark of more points", Check.of("1.5;2.5\n3,5;a").used(1), 0);
        check.same("mark in quotes", Check.of("\"1,5\",\"2\"\n\"2,5\",3").used(1), 1);
        check.same("a comma that parts is no mark", Check.of("1,5\n2,5\n").used(1), 0);
        check.same("cells behind the twentieth do not count",
            parted("a;;;;;;;;;;;;;;;;;;;;1,5", 1).used(1), 0);
        check.same("the twentieth cell counts", parted("a;;;;;;;;;;;;;;;;;;;1,5", 1).used(1), 1);
        Tallow told = parted("1,5;2\n", 1);
        told.tell(1, 0);
        check.same("the mark told", told.used(1), 0);
        check.same("with the mark told a comma makes words", told.cell(0, 0, 0), 5);
    }

    private static void usedHeading() {
        check.same("words above numbers", Check.of("a,b\n1,c").used(2), 1);
        check.same("words above dates", Check.of("a,b\nc,1/1/2000").used(2), 1);
        check.same("words above flags", Check.of("a,b\nc,y").used(2), 1);
        check.same("words above words", Check.of("a,b\nc,d").used(2), 0);
        check.same("words above nothing", Check.of("a,b\n,").used(2), 0);
        check.same("an empty cell is no word", Check.of("a,\n1,2").used(2), 0);
        check.same("a number is no word", Check.of("a,7\n1,2").used(2), 0);
        check.same("a flag is no word", Check.of("a,y\n1,2").used(2), 0);
        check.same("a first row alone", Check.of("a,b\n").used(2), 0);
        check.same("a first row of another width", Check.of("a\n1,2\n3,4").used(2), 0);
        check.same("a kind that is too seldom", Check.of("a,b\n1,2\nc,d").used(2), 0);
        Tallow wide = parted("a,b,c,d,e,f,g,h,i,j,k,l,m,aa,o,p,q,r,s,t,7\n1,,,,,,,,,,,,,,,,,,,,\n", 0);
        check.same("the usual width is more than the cells", wide.width(0), 21);
        check.same("a cell that is not in its row", wide.used(2), 1);
        Tallow told = new Tallow();
        told.tell(2, 1);
        check.same("a heading told without rows", told.used(2), 1);
        check.same("no data without rows", told.many(3), 0);
        Check.write(told, "1,2\n");
        check.same("a heading told of numbers", told.used(2), 1);
        check.same("no data behind the heading", told.many(3), 0);
    }

    private static void score() {
        Tallow importer = Check.of("a,b;c\nd,e\nf;g");
        check.same("score of commas", importer.score(0), 68);
        check.same("score of semicolons", importer.score(1), 68);
        check.same("score of tabs", importer.score(2), 0);
        check.same("score of bars", importer.score(3), 0);
        importer.tell(0, 3);
        check.same("a score as if nothing was told", importer.score(0), 68);
        check.same("a score of three columns", Check.of("a,b,c\n").score(0), 103);
        check.same("a score of one column", Check.of("a\nb\n").score(0), 0);
        check.same("a usual width of one scores nothing", Check.of("a\nb\nc,d").score(0), 0);
        check.same("a score of twenty-one columns", Check.of(",,,,,,,,,,,,,,,,,,,,").score(0), 120);
        check.same("a score without rows", new Tallow().score(0), 0);
        for (int parter : new int[] {-1, 4, Integer.MIN_VALUE, Integer.MAX_VALUE}) {
            check.fails("score(" + parter + ")", importer, BAD_ARGUMENT, () -> importer.score(parter));
        }
    }

    private static void many() {
        Tallow importer = Check.of("aa,\"bb\"\n1,2\n1,2\n3\n\"x\"y,4\n");
        int[] due = {25, 5, 2, 4, 2, 1, 2};
        importer.setShare(60);
        for (int what = 0; what <= 6; what++) {
            check.same("many(" + what + ")", importer.many(what), due[what]);
        }
        for (int what : new int[] {-1, 7, Integer.MIN_VALUE, Integer.MAX_VALUE}) {
            check.fails("many(" + what + ")", importer, BAD_ARGUMENT, () -> importer.many(what));
        }
        check.same("quoted cells behind the twentieth are not in it",
            parted(",,,,,,,,,,,,,,,,,,,\"a\",\"b\",\"c\"", 0).many(6), 1);
    }

    private static void rowsAndWidths() {
        check.same("no text", Shown.cells(new Tallow()), "");
        check.same("an end alone", Shown.cells(Check.of("\n")), "");
        check.same("spaces alone", Shown.cells(Check.of("  \n \n   ")), "");
        check.same("a quoted cell without signs is a row", Shown.cells(Check.of("\"\"\n")), "#1<");
        check.same("a quote alone is a row", Shown.cells(Check.of("\"")), "#1<");
        check.same("two empty cells are a row", Shown.cells(parted(",\n", 0)), "#2<<");
        check.same("a parter at the end", Shown.cells(parted("a,", 0)), "#2<a<");
        check.same("an end behind the last row", Shown.cells(parted("a,b\n", 0)), "#2<a<b");
        check.same("no end behind the last row", Shown.cells(parted("a,b\nc", 0)), "#2<a<b#1<c");
        check.same("rows without signs between", Shown.cells(parted("a\n\n \nb", 0)), "#1<a#1<b");
        check.same("other parters are signs", Shown.cells(parted("a;b|c,d", 0)), "#2<a;b|c<d");
        check.same("of several widths the greatest is usual", parted("a\nb,c\nd\ne,f\ng,h,i", 0).many(2), 2);
        check.same("the usual width is the most frequent", parted("a\nb,c,d\ne\n", 0).many(2), 1);
        Tallow importer = parted("a,b,c\nd\n", 0);
        check.same("width of the first row", importer.width(0), 3);
        check.same("width of the second row", importer.width(1), 1);
        for (int row : new int[] {-1, 2, 60, Integer.MIN_VALUE, Integer.MAX_VALUE}) {
            check.fails("width(" + row + ")", importer, NO_SUCH, () -> importer.width(row));
        }
        importer.tell(2, 1);
        check.same("the heading has a width, too", importer.width(0), 3);
    }

    private static void limitsOfRows() {
        StringBuilder rows = new StringBuilder();
        for (int row = 0; row < 60; row++) {
            rows.append(row % 2 == 0 ? "a,b\n" : "c,d\n\n");
        }
        Tallow importer = parted(rows.toString(), 0);
        check.same("sixty rows", importer.many(1), 60);
        check.same("no faults in sixty rows", importer.many(4), 0);
        Check.write(importer, "\"e,\"f\n");
        check.same("a row behind the sixtieth is not read", importer.many(1), 60);
        check.same("nor its quotes", importer.many(6), 0);
        check.fails("width(60)", importer, NO_SUCH, () -> importer.width(60));
        StringBuilder cells = new StringBuilder();
        for (int cell = 0; cell < 500; cell++) {
            cells.append(',');
        }
        Tallow wide = Check.of(cells.toString());
        check.same("501 cells", wide.width(0), 501);
        check.same("501 cells make twenty columns", wide.many(2), 20);
        check.same("the twentieth cell is there", wide.cell(0, 19, 0), 0);
        check.fails("the twenty-first is not", wide, NO_SUCH, () -> wide.cell(0, 20, 0));
        Tallow two = parted("a,b,c,d,e,f,g,h,i,j,k,l,m,n,o,p,q,r,s,t,u,v\nw,x", 0);
        check.same("behind a wide row the next is right", two.signAt(1, 1, 0), 43);
        check.same("the twentieth cell of a wide row", two.signAt(0, 19, 0), 39);
    }

    private static void quotedCells() {
        check.same("parters, ends and spaces in quotes", Shown.cells(parted("\" a,\n;\",b", 0)), "#2< a,\n;<b");
        check.same("two quotes stand for one", Shown.cells(parted("\"a\"\"b\",c", 0)), "#2<a\"b<c");
        check.same("four quotes are one", Shown.cells(parted("\"\"\"\",c", 0)), "#2<\"<c");
        check.same("signs behind the last quote", Shown.cells(parted("\"a\" b\"c\"\"d ,e", 0)), "#2<a b\"c\"\"d <e");
        check.same("an open quote", Shown.cells(parted("a,\"b,c\nd", 0)), "#2<a<b,c\nd");
        check.same("an open quote behind a double one", Shown.cells(parted("\"a\"\"", 0)), "#1<a\"");
        check.same("a quote behind a space is a sign", Shown.cells(parted(" \"a\",b", 0)), "#2<\"a\"<b");
        check.same("a quote behind a letter is a sign", Shown.cells(parted("a\"b\",c", 0)), "#2<a\"b\"<c");
        Tallow importer = parted("\"a\",\"b\"c,\"d\" ,e\"f,\"\",\"1\"\"", 0);
        int[] faults = {0, 1, 1, 0, 0, 2};
        int[] quoted = {1, 1, 1, 0, 1, 1};
        for (int column = 0; column < 6; column++) {
            check.same("fault as read of cell " + column, importer.cell(0, column, 3), faults[column]);
            check.same("quoted cell " + column, importer.cell(0, column, 4), quoted[column]);
        }
        Tallow kinds = parted("\"1\",\"\",\" \",\" 1\",\"1\"5,\"y", 0);
        int[] due = {1, 0, 5, 5, 1, 4};
        for (int column = 0; column < 6; column++) {
            check.same("kind of quoted cell " + column, kinds.cell(0, column, 0), due[column]);
        }
        check.same("value of a quoted cell with a fault", kinds.cell(0, 4, 1), 15);
    }

    private static void spaces() {
        check.same("spaces around a cell", Shown.cells(parted("  a  , b c ,   ", 0)), "#3<a<b c<");
        Tallow importer = parted(" 12 ,  ", 0);
        check.same("kind of a number in spaces", importer.cell(0, 0, 0), 1);
        check.same("signs of a number in spaces", importer.cell(0, 0, 2), 2);
        check.same("kind of spaces", importer.cell(0, 1, 0), 0);
        check.same("a tab is no space", Shown.cells(parted("\ta\t,b", 0)), "#2<\ta\t<b");
    }

    private static void kind(String cell, int kind, int value) {
        Tallow importer = parted(cell + "|", 3);
        check.same("kind of " + cell, importer.cell(0, 0, 0), kind);
        check.same("value of " + cell, importer.cell(0, 0, 1), value);
        check.same("signs of " + cell, importer.cell(0, 0, 2), cell.length());
    }

    private static void kindsAndValues() {
        kind("", 0, 0);
        kind("0", 1, 0);
        kind("-0", 1, 0);
        kind("007", 1, 7);
        kind("999999", 1, 999999);
        kind("-999999", 1, -999999);
        kind("1000000", 5, 7);
        kind("-1000000", 5, 8);
        kind("-", 5, 1);
        kind("--1", 5, 3);
        kind("1-", 5, 2);
        kind("1a", 5, 2);
        kind("1 2", 5, 3);
        kind("y", 4, 1);
        kind("n", 4, 0);
        kind("yn", 5, 2);
        kind("x", 5, 1);
        kind("z", 5, 1);
        kind("m", 5, 1);
        kind("o", 5, 1);
        kind("-y", 5, 2);
        kind("a", 5, 1);
        kind("/", 5, 1);
        kind(".", 5, 1);
    }

    private static void decimalsWithEachMark() {
        kind("1.5", 2, 1500);
        kind("-1.05", 2, -1050);
        kind("-0.005", 2, -5);
        kind("0.0", 2, 0);
        kind("999999.999", 2, 999999999);
        kind("-999999.999", 2, -999999999);
        kind("1234567.8", 5, 9);
        kind("1.2345", 5, 6);
        kind("1.", 5, 2);
        kind(".5", 5, 2);
        kind("-.5", 5, 3);
        kind("1.-5", 5, 4);
        kind("1.5.5", 5, 5);
        kind("1.5a", 5, 4);
        kind("12,25", 2, 12250);
        Tallow comma = parted("1,5|1.5|2", 3);
        comma.tell(1, 1);
        check.same("a comma with mark 1", comma.cell(0, 0, 0), 2);
        check.same("a point with mark 1", comma.cell(0, 1, 0), 5);
        check.same("a whole number with mark 1", comma.cell(0, 2, 0), 1);
        comma.tell(1, 0);
        check.same("a comma with mark 0", comma.cell(0, 0, 0), 5);
        check.same("a point with mark 0", comma.cell(0, 1, 0), 2);
    }

    private static void dates() {
        kind("1/1/1900", 3, 0);
        kind("01/01/1900", 3, 0);
        kind("31/12/1900", 3, 364);
        kind("1/1/1901", 3, 365);
        kind("28/2/1900", 3, 58);
        kind("29/2/1900", 5, 9);
        kind("1/3/1900", 3, 59);
        kind("29/2/1904", 3, 1519);
        kind("1/3/1904", 3, 1520);
        kind("29/2/2000", 3, 36583);
        kind("1/3/2000", 3, 36584);
        kind("29/2/2001", 5, 9);
        kind("31/12/2099", 3, 73048);
        kind("1/1/2100", 5, 8);
        kind("31/12/1899", 5, 10);
        kind("30/4/2020", 3, 43949);
        kind("31/4/2020", 5, 9);
        kind("31/6/2020", 5, 9);
        kind("31/9/2020", 5, 9);
        kind("31/11/2020", 5, 10);
        kind("31/1/2020", 3, 43859);
        kind("32/1/2020", 5, 9);
        kind("0/1/2020", 5, 8);
        kind("1/0/2020", 5, 8);
        kind("1/13/2020", 5, 9);
        kind("00/01/2020", 5, 10);
        kind("001/1/2020", 5, 10);
        kind("1/001/2020", 5, 10);
        kind("1/1/20200", 5, 9);
        kind("1/1/202", 5, 7);
        kind("1/1/", 5, 4);
        kind("1//2020", 5, 7);
        kind("/1/2020", 5, 7);
        kind("1/1/2020/", 5, 9);
        kind("-1/1/2020", 5, 9);
        kind("1/1", 5, 3);
        kind("1.1/2020", 5, 8);
        kind("1/1.2020", 5, 8);
    }

    /** The first and the last day of each month, and the day behind that, which is none. */
    private static void allMonths() {
        int days = 0;
        for (int year = 1900; year <= 2099; year++) {
            Tallow importer = parted("", 3);
            for (int month = 1; month <= 12; month++) {
                int length = YearMonth.of(year, month).lengthOfMonth();
                importer.clear();
                importer.three(1, month, year, 9);
                importer.sign(3);
                importer.three(length, month, year, 9);
                importer.sign(3);
                importer.three(length + 1, month, year, 9);
                String name = month + "/" + year;
                check.same("the first of " + name, importer.cell(0, 0, 1), days);
                check.same("the last of " + name, importer.cell(0, 1, 1), days + length - 1);
                check.same("kind of the last of " + name, importer.cell(0, 1, 0), 3);
                check.same("kind of the day behind " + name, importer.cell(0, 2, 0), 5);
                days += length;
            }
        }
    }

    private static void cellAsksInOrder() {
        Tallow importer = parted("a,b\nc\n", 0);
        int[][] missing = {{-1, 0}, {2, 0}, {0, -1}, {0, 2}, {1, 1}, {Integer.MIN_VALUE, 0},
            {0, Integer.MAX_VALUE}, {Integer.MAX_VALUE, Integer.MIN_VALUE}};
        for (int[] place : missing) {
            check.fails("cell of " + place[0] + ", " + place[1], importer, NO_SUCH,
                () -> importer.cell(place[0], place[1], 0));
            check.fails("cell of " + place[0] + ", " + place[1] + " and 9", importer, NO_SUCH,
                () -> importer.cell(place[0], place[1], 9));
            check.fails("signAt of " + place[0] + ", " + place[1], importer, NO_SUCH,
                () -> importer.signAt(place[0], place[1], 0));
        }
        for (int what : new int[] {-1, 5, Integer.MIN_VALUE, Integer.MAX_VALUE}) {
            check.fails("cell(0, 0, " + what + ")", importer, BAD_ARGUMENT, () -> importer.cell(0, 0, what));
        }
        importer.tell(2, 1);
        check.same("the heading has cells, too", importer.cell(0, 1, 2), 1);
    }

    private static void signAt() {
        Tallow importer = parted("ab, cd \n\"e\"\"\",\n", 0);
        check.same("signAt(0, 0, 0)", importer.signAt(0, 0, 0), 20);
        check.same("signAt(0, 0, 1)", importer.signAt(0, 0, 1), 21);
        check.same("signAt(0, 0, 2)", importer.signAt(0, 0, 2), -1);
        check.same("signAt(0, 0, -1)", importer.signAt(0, 0, -1), -1);
        check.same("signAt(0, 0, MIN)", importer.signAt(0, 0, Integer.MIN_VALUE), -1);
        check.same("signAt(0, 0, MAX)", importer.signAt(0, 0, Integer.MAX_VALUE), -1);
        check.same("signAt(0, 1, 0)", importer.signAt(0, 1, 0), 22);
        check.same("signAt(0, 1, 1)", importer.signAt(0, 1, 1), 23);
        check.same("signAt(1, 0, 1)", importer.signAt(1, 0, 1), 4);
        check.same("signAt(1, 0, 2)", importer.signAt(1, 0, 2), -1);
        check.same("signAt(1, 1, 0)", importer.signAt(1, 1, 0), -1);
    }
}
