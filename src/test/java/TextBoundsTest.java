/** The boundaries that the document names of all calls, and in Terms 1: the text, its cells, rows and columns. */
public final class TextBoundsTest {
    private static final Class<IllegalStateException> FULL = IllegalStateException.class;
    private static final Class<IndexOutOfBoundsException> NO_SUCH = IndexOutOfBoundsException.class;
    private static final Check check = new Check("TextBoundsTest");

    public static void main(String[] args) {
        lastCall();
        cutTowardsZero();
        mostSigns();
        namesOfSigns();
        parters();
        endOfCell();
        endOfRow();
        firstQuote();
        insideQuotes();
        doubleQuotes();
        behindLastQuote();
        faultOne();
        faultTwo();
        spacesAround();
        noRow();
        mostRows();
        mostCells();
        usualWidth();
        mostColumns();
        check.end();
    }

    private static void cells(String text, String due) {
        check.same("cells of " + text, Shown.cells(Texts.bars(text)), due);
    }

    /** One fact (as cell tells it) of the first cell. */
    private static void first(String text, int what, int due) {
        check.same("cell(0, 0, " + what + ") of " + text, Texts.bars(text).cell(0, 0, what), due);
    }

    private static void rows(String text, int due) {
        check.same("rows of " + text, Texts.bars(text).many(1), due);
    }

    private static void lastCall() {
        check.sentence("What it is", "An object is used for at most 512 calls after it has been made; "
            + "what later calls answer is free.");
        Tallow importer = new Tallow();
        for (int call = 1; call <= 500; call++) {
            check.same("call " + call, importer.sign(20), call);
        }
        for (int call = 501; call <= 510; call++) {
            check.same("call " + call, importer.many(0), 500);
        }
        check.same("call 511", importer.signAt(0, 0, 499), 20);
        check.same("call 512", importer.digest(), Texts.withSigns(500).digest());
    }

    private static void cutTowardsZero() {
        check.sentence("Terms", "All numbers are whole, if nothing else is said. / is cut towards 0.");
        check.same("score of 1 row of 3", Texts.bars("a\nb|c\nd|e|f").score(3), 33 + 3);
        check.same("score of 2 rows of 3", Texts.bars("a|b\nc|d\ne").score(3), 66 + 2);
        check.same("score of 3 rows of 3", Texts.bars("a|b\nc|d\ne|f").score(3), 100 + 2);
        check.same("score of 6 rows of 7", Texts.bars("a|b\n".repeat(6) + "c").score(3), 85 + 2);
    }

    private static void mostSigns() {
        check.sentence("Terms 1", "The TEXT has at most 500 SIGNS");
        check.same("the 499th sign", Texts.withSigns(498).sign(0), 499);
        check.same("the 500th sign", Texts.withSigns(499).sign(0), 500);
        check.same("the sign at the last place", Texts.withSigns(500).signAt(0, 0, 499), 27);
        check.refused("the 501st sign", () -> Texts.withSigns(500), FULL, importer -> importer.sign(0));
    }

    private static Tallow signs(int parter, int... signs) {
        Tallow importer = new Tallow();
        importer.tell(0, parter);
        importer.tell(1, 0);
        for (int sign : signs) {
            importer.sign(sign);
        }
        return importer;
    }

    private static void namesOfSigns() {
        check.sentence("Terms 1", "0 to 3 are COMMA, SEMICOLON, TAB and BAR, 4 QUOTE, 5 END (of a line), 6 SPACE, "
            + "7 POINT, 8 MINUS, 9 SLASH, 10 to 19 the DIGITS 0 to 9, 20 to 45 the LETTERS a to z.");
        for (int parter = 0; parter <= 3; parter++) {
            check.same("sign " + parter + " parts", signs(parter, 20, parter, 20).width(0), 2);
        }
        check.same("3 is the last that parts", signs(3, 20, 4, 20).width(0), 1);
        check.same("4 quotes", signs(0, 4, 6, 4).cell(0, 0, 4), 1);
        check.same("5 ends a line", signs(0, 20, 5, 20).many(1), 2);
        check.same("4 ends none", signs(0, 20, 4, 20).many(1), 1);
        check.same("6 ends none", signs(0, 20, 6, 20).many(1), 1);
        check.same("6 is left out", signs(0, 6, 20, 6).cell(0, 0, 2), 1);
        check.same("7 is not", signs(0, 7, 20, 7).cell(0, 0, 2), 3);
        check.same("7 is the point", signs(0, 10, 7, 10).cell(0, 0, 0), 2);
        check.same("8 is not", signs(0, 10, 8, 10).cell(0, 0, 0), 5);
        check.same("8 is minus", signs(0, 8, 11).cell(0, 0, 1), -1);
        check.same("9 is not", signs(0, 9, 11).cell(0, 0, 0), 5);
        check.same("9 parts a date", signs(0, 11, 9, 11, 9, 11, 19, 10, 10).cell(0, 0, 0), 3);
        check.same("8 does not", signs(0, 11, 8, 11, 8, 11, 19, 10, 10).cell(0, 0, 0), 5);
        for (int digit = 0; digit <= 9; digit++) {
            check.same("kind of digit " + digit, signs(0, 10 + digit).cell(0, 0, 0), 1);
            check.same("value of digit " + digit, signs(0, 10 + digit).cell(0, 0, 1), digit);
        }
        check.same("9 is no digit", signs(0, 9).cell(0, 0, 0), 5);
        check.same("20 is no digit", signs(0, 20).cell(0, 0, 0), 5);
        check.same("20 is a", signs(0, 20).signAt(0, 0, 0), Check.SIGNS.indexOf('a'));
        check.same("33 is n", signs(0, 33).cell(0, 0, 0), 4);
        check.same("44 is y", signs(0, 44).cell(0, 0, 1), 1);
        check.same("45 is z", signs(0, 45).signAt(0, 0, 0), Check.SIGNS.indexOf('z'));
    }

    private static void parters() {
        check.sentence("Terms 1", "It is read with a PARTER, one of 0 to 3, from left to right.");
        for (int parter = 0; parter <= 3; parter++) {
            for (int sign = 0; sign <= 3; sign++) {
                Tallow importer = signs(parter, 20, sign, 21);
                check.same("width with " + parter + " of a, " + sign + ", b", importer.width(0), parter == sign ? 2 : 1);
            }
            check.same("the left cell is the first", signs(parter, 20, parter, 21).signAt(0, 0, 0), 20);
            check.same("the right cell is the second", signs(parter, 20, parter, 21).signAt(0, 1, 0), 21);
        }
    }

    private static void endOfCell() {
        check.sentence("Terms 1", "A CELL ends at a PARTER, at END, or at the end of the TEXT");
        cells("ab|cd\nef", "#2<ab<cd#1<ef");
        cells("ab,;\tcd\nef", "#1<ab,;\tcd#1<ef");
        cells("|", "#2<<");
        cells("a|", "#2<a<");
        cells("|a", "#2<<a");
        cells("a|\nb", "#2<a<#1<b");
        cells("a\n|b", "#1<a#2<<b");
        cells("a||b", "#3<a<<b");
    }

    private static void endOfRow() {
        check.sentence("Terms 1", "a ROW at an END that ends a CELL, or at the end of the TEXT, "
            + "if there is a SIGN behind the last such END.");
        rows("a", 1);
        rows("a\n", 1);
        rows("a\nb", 2);
        rows("a\nb\n", 2);
        rows("a\n\"", 2);
        cells("a\n|", "#1<a#2<<");
        cells("a|\n", "#2<a<");
        cells("\"a\nb\"", "#1<a\nb");
        cells("\"a\"\nb", "#1<a#1<b");
        cells("\"a\nb\"\nc", "#1<a\nb#1<c");
        cells("\"a\n", "#1<a\n");
    }

    private static void firstQuote() {
        check.sentence("Terms 1", "A CELL whose first SIGN, SPACES counted, is QUOTE is QUOTED "
            + "(that and the last one are not in it)");
        first("\"a\"", 4, 1);
        first(" \"a\"", 4, 0);
        first("a\"a\"", 4, 0);
        first("\"", 4, 1);
        first("|\"", 4, 0);
        cells("\"a\"", "#1<a");
        cells(" \"a\"", "#1<\"a\"");
        cells("a\"b\"", "#1<a\"b\"");
        check.same("a quote behind a parter", Texts.bars("a|\"b\"").cell(0, 1, 4), 1);
        check.same("a quote behind a parter and a space", Texts.bars("a| \"b\"").cell(0, 1, 4), 0);
        check.same("a quote behind an end", Texts.bars("a\n\"b\"").cell(1, 0, 4), 1);
        check.same("a quote behind an end and a space", Texts.bars("a\n \"b\"").cell(1, 0, 4), 0);
    }

    private static void insideQuotes() {
        check.sentence("Terms 1", "it goes on, whatever comes, till the next QUOTE behind that");
        String allOthers = Check.SIGNS.replace("\"", "");
        cells("\"" + allOthers + "\"|a", "#2<" + allOthers + "<a");
        cells("\"|\n", "#1<|\n");
        cells("\"\"|\n", "#2<<");
        cells("\" a \"|b", "#2< a <b");
        cells("\"a\"|\"b\"", "#2<a<b");
    }

    private static void doubleQuotes() {
        check.sentence("Terms 1", "but two QUOTES one behind the other stand for one that is in it.");
        cells("\"a\"|b", "#2<a<b");
        cells("\"a\"\"|b", "#1<a\"|b");
        cells("\"a\"\"\"|b", "#2<a\"<b");
        cells("\"a\"\"\"\"|b", "#1<a\"\"|b");
        cells("\"a\"\"\"\"\"|b", "#2<a\"\"<b");
        cells("\"\"\"\"", "#1<\"");
        cells("\"\"\"", "#1<\"");
        cells("\"\"\"\"\"\"", "#1<\"\"");
        cells("\"a\"b\"|c", "#2<ab\"<c");
        cells("a\"\"b|c", "#2<a\"\"b<c");
    }

    private static void behindLastQuote() {
        check.sentence("Terms 1", "Behind the last one what comes up to its end, the next PARTER or END, is in it, "
            + "too, as it is (QUOTES, too)");
        cells("\"a\"|b", "#2<a<b");
        cells("\"a\"b|c", "#2<ab<c");
        cells("\"a\"b\nc", "#1<ab#1<c");
        cells("\"a\"b", "#1<ab");
        cells("\"a\" b |c", "#2<a b <c");
        cells("\"a\" |c", "#2<a <c");
        cells("\"a\"b\"\"c|d", "#2<ab\"\"c<d");
        cells("\"a\"b\"|\"c\"", "#2<ab\"<c");
        cells("\"a\"b\"\nc", "#1<ab\"#1<c");
        cells("\"a\" \"b|c\"", "#2<a \"b<c\"");
    }

    private static void faultOne() {
        check.sentence("Terms 1", "if that is any SIGN, it has the FAULT 1.");
        first("\"a\"|b", 3, 0);
        first("\"a\"\nb", 3, 0);
        first("\"a\"", 3, 0);
        first("\"\"", 3, 0);
        first("\"a\"b", 3, 1);
        first("\"a\" |b", 3, 1);
        first("\"a\" \nb", 3, 1);
        first("\"a\" ", 3, 1);
        first("\"\"b", 3, 1);
        first("\"a\"b\"", 3, 1);
        first("\"a\"\"b\"", 3, 0);
        first("a\"b\"c", 3, 0);
    }

    private static void faultTwo() {
        check.sentence("Terms 1", "If the TEXT ends ahead of the last QUOTE, it has the FAULT 2.");
        first("\"", 3, 2);
        first("\"\"", 3, 0);
        first("\"\"\"", 3, 2);
        first("\"\"\"\"", 3, 0);
        first("\"a", 3, 2);
        first("\"a\"", 3, 0);
        first("\"a\"\"", 3, 2);
        first("\"a\"\"\"", 3, 0);
        first("\"a|b\nc", 3, 2);
        first("a\"", 3, 0);
        check.same("of the last cell", Texts.bars("a|\"").cell(0, 1, 3), 2);
        check.same("not of the cell ahead", Texts.bars("a|\"").cell(0, 0, 3), 0);
    }

    private static void spacesAround() {
        check.sentence("Terms 1",
            "In a CELL that is not QUOTED, SPACES at its beginning and at its end are left out.");
        cells("a", "#1<a");
        cells(" a", "#1<a");
        cells("a ", "#1<a");
        cells("  a  b   |   c", "#2<a  b<c");
        cells("a|  ", "#2<a<");
        cells("  |a", "#2<<a");
        cells("\"  a \"", "#1<  a ");
        cells("\" \"", "#1< ");
        cells("\ta\t", "#1<\ta\t");
    }

    private static void noRow() {
        check.sentence("Terms 1",
            "A ROW that has one CELL, not QUOTED, without SIGNS (or with SPACES alone), is no ROW.");
        cells("\n", "");
        cells(" ", "");
        cells("  \n", "");
        cells("a\n", "#1<a");
        cells("\"\"\n", "#1<");
        cells("\" \"\n", "#1< ");
        cells("\"", "#1<");
        cells("|\n", "#2<<");
        cells(" | \n", "#2<<");
        cells("a\n\nb", "#1<a#1<b");
        cells("a\n  ", "#1<a");
        cells("a\n  b", "#1<a#1<b");
        cells("\n\na", "#1<a");
    }

    private static void mostRows() {
        check.sentence("Terms 1", "There are at most 60 ROWS (what comes behind is not read)");
        rows("a\n".repeat(59), 59);
        rows("a\n".repeat(60), 60);
        rows("a\n".repeat(61), 60);
        rows("a\n".repeat(59) + "b", 60);
        rows("a\n".repeat(60) + "b", 60);
        rows("a\n\n".repeat(60), 60);
        Tallow sixty = Texts.bars("a\n".repeat(59) + "\"b\"|1,5");
        check.same("quoted cells of the 60th row", sixty.many(6), 1);
        check.same("mark of the 60th row", sixty.used(1), 1);
        check.same("a fault of the 60th row", Shown.faults(sixty), "59,-1,5");
        check.same("width of the 60th row", sixty.width(59), 2);
        Tallow more = Texts.bars("a\n".repeat(60) + "\"b\"|1,5");
        check.same("quoted cells of the 61st row", more.many(6), 0);
        check.same("mark of the 61st row", more.used(1), 0);
        check.same("a fault of the 61st row", Shown.faults(more), "");
        check.same("signs of the 61st row are in the text", more.many(0), 127);
        check.refused("width(60)", () -> Texts.bars("a\n".repeat(60) + "b"), NO_SUCH, importer -> importer.width(60));
        check.same("score without the 61st row", Texts.bars("a|b\n".repeat(60) + "c").score(3), 102);
        check.same("score with the 60th row", Texts.bars("a|b\n".repeat(59) + "c").score(3), 98 + 2);
    }

    private static void mostCells() {
        check.sentence("Terms 1", "each with at most 20 CELLS (others are not in it, but counted in its WIDTH: "
            + "how many it has).");
        for (int width = 19; width <= 21; width++) {
            check.same("width of " + width, Texts.bars(Texts.row(width, "a")).width(0), width);
        }
        check.same("the 19th cell of 19", Texts.bars(Texts.row(19, "a")).cell(0, 18, 2), 1);
        check.refused("the 20th of 19", () -> Texts.bars(Texts.row(19, "a")), NO_SUCH,
            importer -> importer.cell(0, 19, 2));
        check.same("the 20th cell of 20", Texts.bars(Texts.row(20, "a")).cell(0, 19, 2), 1);
        check.same("the 20th cell of 21", Texts.bars(Texts.row(21, "a")).cell(0, 19, 2), 1);
        check.refused("the 21st of 21", () -> Texts.bars(Texts.row(21, "a")), NO_SUCH,
            importer -> importer.cell(0, 20, 2));
        check.refused("a sign of the 21st of 21", () -> Texts.bars(Texts.row(21, "a")), NO_SUCH,
            importer -> importer.signAt(0, 20, 0));
        check.same("the 20th is quoted", Texts.bars(Texts.row(19, "") + "|\"b\"").many(6), 1);
        check.same("the 21st is quoted", Texts.bars(Texts.row(20, "") + "|\"b\"").many(6), 0);
        check.same("behind a wide row", Texts.bars(Texts.row(22, "a") + "\nb|c").signAt(1, 1, 0), 22);
        check.same("500 parters", Texts.bars("|".repeat(500)).width(0), 501);
    }

    private static void usualWidth() {
        check.sentence("Terms 1", "The USUAL WIDTH is that which the most ROWS have, of several the greatest "
            + "(0 without ROWS).");
        check.same("without rows", Texts.bars("").many(2), 0);
        check.same("with one row", Texts.bars("a").many(2), 1);
        for (int what = 0; what <= 6; what++) {
            check.same("many(" + what + ") without rows", new Tallow().many(what), 0);
        }
        check.same("one each, the greater last", Texts.bars("a\nb|c").many(2), 2);
        check.same("one each, the greater first", Texts.bars("a|b\nc").many(2), 2);
        check.same("one more of the lesser", Texts.bars("a\nb|c\nd").many(2), 1);
        check.same("one more of the greater", Texts.bars("a|b\nc\nd|e").many(2), 2);
        check.same("two each", Texts.bars("a|b|c\nd\ne\nf|g|h").many(2), 3);
        check.same("three widths, one each", Texts.bars("a\nb|c|d\ne|f").many(2), 3);
        check.same("three widths, two of one", Texts.bars("a|b\nc|d|e\nf|g").many(2), 2);
        String wide = Texts.row(21, "a");
        check.same("of 21 and 22 the greater", Shown.faults(Texts.data(wide + "\n" + wide + "|b")), "0,-1,4");
        check.same("of two with 21 and one with 22", Shown.faults(Texts.data(wide + "\n" + wide + "\n" + wide + "|b")),
            "2,-1,5");
    }

    private static void mostColumns() {
        check.sentence("Terms 1", "There are as many COLUMNS, but 20 at most.");
        for (int width = 1; width <= 22; width++) {
            check.same("columns of " + width, Texts.bars(Texts.row(width, "a")).many(2), Math.min(20, width));
        }
        check.same("the 20th column of 21", Texts.bars(Texts.row(21, "a")).column(19, 1), 1);
        check.refused("the 21st column of 21", () -> Texts.bars(Texts.row(21, "a")), NO_SUCH,
            importer -> importer.column(20, 1));
        check.refused("the 20th column of 19", () -> Texts.bars(Texts.row(19, "a")), NO_SUCH,
            importer -> importer.column(19, 1));
    }
}
