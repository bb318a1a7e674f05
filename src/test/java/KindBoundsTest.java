/** The boundaries that the document names in Terms 2: the kinds and values of cells, and the kind of some together. */
public final class KindBoundsTest {
    private static final int EMPTY = 0;
    private static final int WHOLE = 1;
    private static final int DECIMAL = 2;
    private static final int DATE = 3;
    private static final int FLAG = 4;
    private static final int WORDS = 5;
    private static final Check check = new Check("KindBoundsTest");

    public static void main(String[] args) {
        empty();
        whole();
        decimal();
        date();
        leapYears();
        flag();
        words();
        kindsOfQuotedOnes();
        values();
        emptyTogether();
        mostTogether();
        wholeForDecimal();
        smallestOfSeveral();
        share();
        ofAKind();
        check.end();
    }

    private static Tallow cell(String signs, int mark) {
        Tallow importer = Texts.bars(signs + "|");
        importer.tell(1, mark);
        return importer;
    }

    private static void kind(String signs, int due) {
        check.same("kind of " + signs, cell(signs, 0).cell(0, 0, 0), due);
    }

    private static void kindWithComma(String signs, int due) {
        check.same("kind of " + signs + " with MARK 1", cell(signs, 1).cell(0, 0, 0), due);
    }

    private static void value(String signs, int kind, int due) {
        kind(signs, kind);
        check.same("value of " + signs, cell(signs, 0).cell(0, 0, 1), due);
    }

    /** The kind of the cells of one column, with the share that holds at first. */
    private static void together(String cells, int due) {
        check.same("kind of " + cells + " together", Texts.column(cells).column(0, 0), due);
    }

    private static void together(String cells, int share, int due) {
        Tallow importer = Texts.column(cells);
        importer.setShare(share);
        check.same("kind of " + cells + " together with " + share, importer.column(0, 0), due);
    }

    private static void empty() {
        check.sentence("Terms 2", "The KIND of a CELL: 0 EMPTY, without SIGNS");
        kind("", EMPTY);
        kind("  ", EMPTY);
        kind("\"\"", EMPTY);
        kind("\" \"", WORDS);
        kind("\"\" ", WORDS);
        kind("a", WORDS);
        kind("1", WHOLE);
    }

    private static void whole() {
        check.sentence("Terms 2", "1 WHOLE: MINUS, or not, and 1 to 6 DIGITS");
        kind("", EMPTY);
        kind("0", WHOLE);
        kind("123456", WHOLE);
        kind("000000", WHOLE);
        kind("1234567", WORDS);
        kind("0000000", WORDS);
        kind("-", WORDS);
        kind("-0", WHOLE);
        kind("-123456", WHOLE);
        kind("-1234567", WORDS);
        kind("--1", WORDS);
        kind("1-", WORDS);
        kind("1-1", WORDS);
        kind("1 1", WORDS);
        kind("- 1", WORDS);
        kind("1a", WORDS);
        kind("a1", WORDS);
        kind("9", WHOLE);
        kind("/", WORDS);
    }

    private static void decimal() {
        check.sentence("Terms 2", "2 DECIMAL: MINUS, or not, 1 to 6 DIGITS, the MARK (0 POINT, 1 COMMA), 1 to 3 DIGITS");
        kind(".5", WORDS);
        kind("1.5", DECIMAL);
        kind("123456.5", DECIMAL);
        kind("1234567.5", WORDS);
        kind("-.5", WORDS);
        kind("-1.5", DECIMAL);
        kind("-123456.5", DECIMAL);
        kind("-1234567.5", WORDS);
        kind("--1.5", WORDS);
        kind("1", WHOLE);
        kind("1.", WORDS);
        kind("1.567", DECIMAL);
        kind("1.5678", WORDS);
        kind("123456.567", DECIMAL);
        kind("1..5", WORDS);
        kind("1.5.", WORDS);
        kind("1.5-", WORDS);
        kind("1.-5", WORDS);
        kind("1,5", WORDS);
        kindWithComma("1,5", DECIMAL);
        kindWithComma("1.5", WORDS);
        kindWithComma(",5", WORDS);
        kindWithComma("1,", WORDS);
        kindWithComma("-123456,567", DECIMAL);
        kindWithComma("1234567,5", WORDS);
        kindWithComma("1,5678", WORDS);
        kindWithComma("1", WHOLE);
        kindWithComma("1;5", WORDS);
        kind("1/5", WORDS);
    }

    private static void date() {
        check.sentence("Terms 2", "3 DATE: 1 or 2 DIGITS (the day), SLASH, 1 or 2 (the month), SLASH, "
            + "4 (the year, 1900 to 2099), of a day that there is");
        kind("/1/2000", WORDS);
        kind("1/1/2000", DATE);
        kind("01/1/2000", DATE);
        kind("001/1/2000", WORDS);
        kind("1//2000", WORDS);
        kind("1/01/2000", DATE);
        kind("1/001/2000", WORDS);
        kind("1/1/200", WORDS);
        kind("1/1/", WORDS);
        kind("1/1/20000", WORDS);
        kind("31/12/1899", WORDS);
        kind("1/1/1900", DATE);
        kind("31/12/2099", DATE);
        kind("1/1/2100", WORDS);
        kind("0/1/2000", WORDS);
        kind("00/1/2000", WORDS);
        kind("31/1/2000", DATE);
        kind("32/1/2000", WORDS);
        kind("1/0/2000", WORDS);
        kind("1/12/2000", DATE);
        kind("1/13/2000", WORDS);
        kind("1/99/2000", WORDS);
        int[] days = {31, 28, 31, 30, 31, 30, 31, 31, 30, 31, 30, 31};
        for (int month = 1; month <= 12; month++) {
            kind(days[month - 1] + "/" + month + "/2001", DATE);
            kind(days[month - 1] + 1 + "/" + month + "/2001", WORDS);
        }
        kind("-1/1/2000", WORDS);
        kind("1/1/2000/", WORDS);
        kind("1/1/-200", WORDS);
        kind("1-1/2000", WORDS);
        kind("1/1.2000", WORDS);
        kind("1/2000", WORDS);
        kind("1/1/200a", WORDS);
    }

    private static void leapYears() {
        check.sentence("Terms 2", "(years that 4 divides have 366 days, but of those that 100 divides only those that "
            + "400 divides)");
        for (int year : new int[] {1904, 1996, 2000, 2004, 2096}) {
            kind("29/2/" + year, DATE);
            kind("30/2/" + year, WORDS);
            check.same("days of " + year, daysOf(year), 366);
            check.same("days of the year behind " + year, daysOf(year + 1), 365);
        }
        for (int year : new int[] {1900, 1901, 1902, 1903, 1999, 2001, 2098}) {
            kind("28/2/" + year, DATE);
            kind("29/2/" + year, WORDS);
            check.same("days of " + year, daysOf(year), 365);
        }
    }

    /** From the first of a year to the first of the next one. */
    private static int daysOf(int year) {
        return cell("1/1/" + (year + 1), 0).cell(0, 0, 1) - cell("1/1/" + year, 0).cell(0, 0, 1);
    }

    private static void flag() {
        check.sentence("Terms 2", "4 FLAG: the LETTER y or n");
        kind("m", WORDS);
        kind("n", FLAG);
        kind("o", WORDS);
        kind("x", WORDS);
        kind("y", FLAG);
        kind("z", WORDS);
        kind("yy", WORDS);
        kind("yn", WORDS);
        kind("-y", WORDS);
        kind("y1", WORDS);
        kind(" y ", FLAG);
    }

    private static void words() {
        check.sentence("Terms 2", "5 WORDS: all others.");
        kind("", EMPTY);
        kind("a", WORDS);
        kind("1", WHOLE);
        for (char sign : ",;\t./-".toCharArray()) {
            kind(String.valueOf(sign), WORDS);
        }
        kind("\"|\"", WORDS);
        kind("\"\n\"", WORDS);
        kind("\"\"\"\"", WORDS);
        kind("\" 1\"", WORDS);
        kind("\"1\"", WHOLE);
    }

    private static void kindsOfQuotedOnes() {
        check.sentence("Terms 2", "QUOTED ones, and those with FAULTS, have KINDS, too.");
        kind("\"\"", EMPTY);
        kind("\"-12\"", WHOLE);
        kind("\"1.5\"", DECIMAL);
        kind("\"1/1/2000\"", DATE);
        kind("\"y\"", FLAG);
        kind("\"a\"", WORDS);
        kind("\"1\"2", WHOLE);
        kind("\"1\"23456", WHOLE);
        kind("\"1\"234567", WORDS);
        kind("\"\"y", FLAG);
        kind("\"y\"n", WORDS);
        check.same("kind of a cell without last quote", Texts.bars("\"1.5").cell(0, 0, 0), DECIMAL);
        check.same("kind of one without signs", Texts.bars("\"").cell(0, 0, 0), EMPTY);
        check.same("kind of a cell of a row that is too wide", Texts.bars("1\n2\n3|4").cell(2, 1, 0), WHOLE);
    }

    private static void values() {
        check.sentence("Terms 2", "Its VALUE: of EMPTY 0; of WHOLE the number; of DECIMAL its thousandths; of DATE how "
            + "many days it is behind the first one of 1900; of FLAG 1 for y, 0 for n; of WORDS how many SIGNS it has.");
        value("", EMPTY, 0);
        value("0", WHOLE, 0);
        value("-0", WHOLE, 0);
        value("1", WHOLE, 1);
        value("-1", WHOLE, -1);
        value("000019", WHOLE, 19);
        value("999999", WHOLE, 999999);
        value("-999999", WHOLE, -999999);
        value("0.0", DECIMAL, 0);
        value("0.001", DECIMAL, 1);
        value("-0.001", DECIMAL, -1);
        value("0.01", DECIMAL, 10);
        value("0.1", DECIMAL, 100);
        value("0.999", DECIMAL, 999);
        value("1.0", DECIMAL, 1000);
        value("-1.05", DECIMAL, -1050);
        value("999999.999", DECIMAL, 999999999);
        value("-999999.999", DECIMAL, -999999999);
        value("1/1/1900", DATE, 0);
        value("2/1/1900", DATE, 1);
        value("28/2/1900", DATE, 58);
        value("1/3/1900", DATE, 59);
        value("31/12/1900", DATE, 364);
        value("1/1/1901", DATE, 365);
        value("29/2/2000", DATE, 36583);
        value("1/3/2000", DATE, 36584);
        value("31/12/2099", DATE, 73048);
        value("y", FLAG, 1);
        value("n", FLAG, 0);
        value("a", WORDS, 1);
        value("1234567", WORDS, 7);
        check.same("value of 499 letters", Texts.withSigns(499).cell(0, 0, 1), 499);
        check.same("value of 500 letters", Texts.withSigns(500).cell(0, 0, 1), 500);
    }

    private static void emptyTogether() {
        check.sentence("Terms 2", "The KIND of some CELLS together: EMPTY ones are left out; EMPTY without any others;");
        together("\"\"", EMPTY);
        together("\"\" \"\" \"\"", EMPTY);
        together("\"\" \"\" \"\" 1", 100, WHOLE);
        together("\"\" \"\" y \"\"", 100, FLAG);
        together("\"\" \"\" a", 1, WORDS);
        together("\"\" \"\" \"\" \"\" 1 2 a", 66, WHOLE);
        together("\"\" \"\" \"\" \"\" 1 2 a", 67, WORDS);
    }

    private static void mostTogether() {
        check.sentence("Terms 2", "otherwise, of WHOLE, DECIMAL, DATE and FLAG that which the most have,");
        together("1 1/1/2000 2/1/2000", 1, DATE);
        together("1 2 1/1/2000", 1, WHOLE);
        together("1.5 y n", 1, FLAG);
        together("1.5 2.5 y", 1, DECIMAL);
        together("1/1/2000 y n", 1, FLAG);
        together("1/1/2000 2/1/2000 y", 1, DATE);
        together("1 y n", 1, FLAG);
        together("a b c d 1", 20, WHOLE);
        together("a b c d y", 20, FLAG);
        together("a b c d e", 1, WORDS);
        together("\"\" \"\" \"\" y", 1, FLAG);
    }

    private static void wholeForDecimal() {
        check.sentence("Terms 2", "with WHOLE ones counted for DECIMAL, too, if there is a DECIMAL one,");
        together("1 2 3 4", 100, WHOLE);
        together("1 2 3 4.5", 100, DECIMAL);
        together("1.5 2 3 4", 100, DECIMAL);
        together("1 2.5 y n", 50, DECIMAL);
        together("1 2.5 y n", 51, WORDS);
        together("1 2 y n", 50, WHOLE);
        together("1 2.5 y n y", 1, FLAG);
        together("1 2 2.5 y n y", 1, DECIMAL);
        together("1 2 y n y", 1, FLAG);
    }

    private static void smallestOfSeveral() {
        check.sentence("Terms 2", "of several the smallest number;");
        together("1 1/1/2000", 1, WHOLE);
        together("1/1/2000 1", 1, WHOLE);
        together("y 1", 1, WHOLE);
        together("1.5 1/1/2000", 1, DECIMAL);
        together("1/1/2000 1.5", 1, DECIMAL);
        together("y 1.5", 1, DECIMAL);
        together("y 1/1/2000", 1, DATE);
        together("1/1/2000 y", 1, DATE);
        together("y y 1 1.5", 1, DECIMAL);
        together("y 1/1/2000 1", 1, WHOLE);
        together("y 1/1/2000 n", 1, FLAG);
        together("1 1/1/2000 y 1/2/2000", 1, DATE);
        together("a b 1", 1, WHOLE);
    }

    private static void share() {
        check.sentence("Terms 2", "if these are at least SHARE percents (1 to 100; 80 at first) of all that are not "
            + "left out; otherwise WORDS.");
        together("1 2 3 4 a", WHOLE);
        together("1 2 3 4 5 6 7 a b", WORDS);
        together("1 2 3 4 a", 80, WHOLE);
        together("1 2 3 4 a", 81, WORDS);
        together("1 2 3 4 5", 100, WHOLE);
        together("1 2 3 4 a", 100, WORDS);
        together("1 2 a", 66, WHOLE);
        together("1 2 a", 67, WORDS);
        together("1 a b", 33, WHOLE);
        together("1 a b", 34, WORDS);
        together("1 2 3 4 \"\" a", 80, WHOLE);
        together("1 2 3 4 \"\" a", 81, WORDS);
        together("y" + " a".repeat(59), 1, FLAG);
        together("y" + " a".repeat(59), 2, WORDS);
        together("y" + " a".repeat(49), 2, FLAG);
        together("y" + " a".repeat(50), 2, WORDS);
        together("1.5 2 y n a", 40, DECIMAL);
        together("1.5 2 y n a", 41, WORDS);
    }

    private static void ofAKind() {
        check.sentence("Terms 2", "A CELL is of a KIND, if it has that; if it is EMPTY; if it is WHOLE, and that is "
            + "DECIMAL (its VALUE there is 1000 times as much); and each is, if that is WORDS (its VALUE there is how "
            + "many SIGNS it has).");
        ofAKind("1 2 \"\" 3 4 y", "5,0,3", "1 2 0 3 4");
        ofAKind("1.5 2 \"\" -999999 a 999999 9", "4,0,3", "1500 2000 0 -999999000 999999000 9000");
        ofAKind("1.5 2 3 4 1/1/2000", "4,0,3", "1500 2000 3000 4000");
        ofAKind("1/1/1900 2/1/1900 \"\" 4/1/1900 5/1/1900 1", "5,0,3", "0 1 0 3 4");
        ofAKind("y n", "", "1 0");
        ofAKind("y \"y\" \"\"y \"y\"", "2,0,1", "1");
        ofAKind("y 1 2.5 1/1/1900 \"\" abc -12", "", "1 1 3 8 0 3 3");
    }

    private static void ofAKind(String cells, String faults, String values) {
        check.same("faults of " + cells, Shown.faults(Texts.column(cells)), faults);
        check.same("values of " + cells, Shown.values(Texts.column(cells)), values);
    }
}
