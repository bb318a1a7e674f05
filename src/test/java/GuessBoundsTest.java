/** The boundaries that the document names in Terms 3: the guesses, and what is data. */
public final class GuessBoundsTest {
    private static final int EMPTY = 0;
    private static final int WHOLE = 1;
    private static final int WORDS = 5;
    private static final Check check = new Check("GuessBoundsTest");

    public static void main(String[] args) {
        notTold();
        scoreOfColumns();
        scoreOfRows();
        greatestScore();
        mark();
        anotherRow();
        headingOfUsualWidth();
        headingOfWords();
        kindBelowHeading();
        data();
        kindOfColumn();
        check.end();
    }

    private static void heading(String text, int due) {
        check.same("heading of " + text, Texts.bars(text).used(2), due);
    }

    private static void mark(String text, int due) {
        check.same("mark of " + text, Texts.bars(text).used(1), due);
    }

    private static void parter(String text, int due) {
        check.same("parter of " + text, Check.of(text).used(0), due);
    }

    private static void notTold() {
        check.sentence("Terms 3", "GUESSES, each if it is not told.");
        int[] guessed = {1, 1, 1};
        for (int what = 0; what <= 2; what++) {
            Tallow importer = Check.of("a;b\n1,5;2\n");
            check.same("guessed " + what, importer.used(what), guessed[what]);
            importer.tell(what, 0);
            check.same("told " + what, importer.used(what), 0);
            importer.tell(what, -1);
            check.same("guessed again " + what, importer.used(what), guessed[what]);
            int other = what == 0 ? 1 : 0;
            importer.tell(what, 1);
            check.same("not told " + other, importer.used(other), guessed[other]);
        }
    }

    private static void scoreOfColumns() {
        check.sentence("Terms 3", "PARTER: with each one the TEXT is read, and has a SCORE: 0, if there are fewer than "
            + "2 COLUMNS, otherwise 100 * (ROWS with the USUAL WIDTH) / (ROWS) + COLUMNS;");
        for (int parter = 0; parter <= 3; parter++) {
            check.same("score without rows", new Tallow().score(parter), 0);
            check.same("score of one column", Check.of("a\nb").score(parter), 0);
            Tallow importer = new Tallow();
            importer.sign(parter);
            check.same("score of two columns", importer.score(parter), 102);
            check.same("score with the others", importer.score((parter + 1) % 4), 0);
            importer.sign(parter);
            check.same("score of three columns", importer.score(parter), 103);
        }
        check.same("one column is usual", Texts.bars("a\nb\nc|d").score(3), 0);
        check.same("one column or two are usual", Texts.bars("a\nc|d").score(3), 52);
    }

    private static void scoreOfRows() {
        check.sentence("Terms 3", "100 * (ROWS with the USUAL WIDTH) / (ROWS) + COLUMNS");
        check.same("score of 19 columns", Texts.bars(Texts.row(19, "")).score(3), 119);
        check.same("score of 20 columns", Texts.bars(Texts.row(20, "")).score(3), 120);
        check.same("score of 21 cells", Texts.bars(Texts.row(21, "")).score(3), 120);
        check.same("score of 59 rows of 60", Texts.bars("|\n".repeat(59) + "a").score(3), 98 + 2);
        check.same("score of 60 rows of 60", Texts.bars("|\n".repeat(60)).score(3), 100 + 2);
        check.same("score of 1 row of 20", Texts.bars(rowsOfWidths(20)).score(3), 5 + 20);
        check.same("score of 1 row of 21", Texts.bars(rowsOfWidths(21)).score(3), 4 + 20);
    }

    /** One row of each width up to this one. */
    private static String rowsOfWidths(int most) {
        StringBuilder text = new StringBuilder("a\n");
        for (int width = 2; width <= most; width++) {
            text.append(Texts.row(width, "")).append('\n');
        }
        return text.toString();
    }

    private static void greatestScore() {
        check.sentence("Terms 3", "that with the greatest SCORE, of several the smallest number.");
        parter("", 0);
        parter("a", 0);
        parter("a,b;c\td|e", 0);
        parter("a;b\tc|d", 1);
        parter("a\tb|c", 2);
        parter("a|b", 3);
        parter("a|b\tc", 2);
        parter("a|b\tc;d,e", 0);
        parter("a,b;c;d", 1);
        parter("a,b;c\td\te", 2);
        parter("a,b;c\td|e|f", 3);
        parter("a,b,c;d;e", 0);
        parter("a,b;c\nd;e", 1);
        parter("a,b;c\nd,e", 0);
        parter("a|b\nc", 3);
        Tallow told = Check.of("a|b");
        told.tell(0, 0);
        check.same("a lesser score that is told", told.used(0), 0);
    }

    private static void mark() {
        check.sentence("Terms 3", "MARK: 1, if, read with the PARTER, more CELLS of all ROWS are DECIMAL with 1 than "
            + "with 0, otherwise 0.");
        mark("", 0);
        mark("a", 0);
        mark("1.5", 0);
        mark("1,5", 1);
        mark("1.5|1,5", 0);
        mark("1,5|1.5", 0);
        mark("1.5|1,5|2,5", 1);
        mark("1.5|1,5|2.5", 0);
        mark("1.5\n1,5\n2,5", 1);
        mark("1.5\n2.5\n1,5\n2,5", 0);
        mark("1.5\n1,5|2,5", 1);
        mark("a\n".repeat(59) + "1,5", 1);
        mark("a\n".repeat(60) + "1,5", 0);
        mark("1,5678", 0);
        mark("1234567,8", 0);
        mark("\"1,5\"", 1);
        mark("\"1,5\"a", 0);
        mark("1\n2\n3\n4,5", 1);
        mark(Texts.row(19, "") + "|1,5", 1);
        mark(Texts.row(20, "") + "|1,5", 0);
        Tallow heading = Texts.bars("1,5\n1.5\n2,5");
        heading.tell(2, 1);
        check.same("the heading counts, too", heading.used(1), 1);
        check.same("with COMMA as PARTER", Texts.parted("1,5\n2,5", 0).used(1), 0);
        check.same("with SEMICOLON as PARTER", Texts.parted("1,5\n2,5", 1).used(1), 1);
        check.same("with COMMA as PARTER, quoted", Texts.parted("\"1,5\",2\n", 0).used(1), 1);
    }

    private static void anotherRow() {
        check.sentence("Terms 3", "HEADING: that the first ROW is one: if there is another one,");
        heading("", 0);
        heading("a", 0);
        heading("a\n", 0);
        heading("a\n\n  \n", 0);
        heading("a\n1", 1);
        heading("\n\na\n\n1", 1);
    }

    private static void headingOfUsualWidth() {
        check.sentence("Terms 3", "it has the USUAL WIDTH,");
        heading("a|b\n1|2\n3|4", 1);
        heading("a\n1|2\n3|4", 0);
        heading("a|b|c\n1|2\n3|4", 0);
        heading("a\n1|2", 0);
        heading("a|b\n1", 1);
        heading("a|b\n1\n2", 0);
        heading(Texts.row(20, "a") + "\n" + Texts.row(20, "1"), 1);
        heading(Texts.row(21, "a") + "\n" + Texts.row(21, "1"), 1);
        heading(Texts.row(20, "a") + "\n" + Texts.row(21, "1"), 0);
        heading(Texts.row(21, "a") + "\n" + Texts.row(20, "1"), 1);
    }

    private static void headingOfWords() {
        check.sentence("Terms 3", "all its CELLS that are in it are of the KIND WORDS,");
        heading("a|b\n1|2", 1);
        for (String other : new String[] {"", "1", "1.5", "1/1/2000", "y", "\"\"", "\"1\""}) {
            heading(other + "|b\n1|2", 0);
            heading("a|" + other + "\n1|2", 0);
        }
        heading("a|b\n1\n2|3", 1);
        heading("a|7\n1\n2|3", 0);
        heading("a|b\n1|2|3\n4|5", 1);
        heading("a|7\n1|2|3\n4|5", 0);
        heading("a|\"y\"n\n1|2", 1);
        heading("a|1234567\n1|2", 1);
        heading("a|123456\n1|2", 0);
        heading(Texts.row(20, "a") + "\n1|" + Texts.row(19, ""), 1);
        heading(Texts.row(19, "a") + "|1\n1|" + Texts.row(19, ""), 0);
        heading(Texts.row(20, "a") + "|1\n1|" + Texts.row(20, ""), 1);
        Tallow mark = Texts.bars("a|1,5\n1|2");
        check.same("1,5 with the MARK guessed", mark.used(2), 0);
        mark.tell(1, 0);
        check.same("1,5 with MARK 0", mark.used(2), 1);
    }

    private static void kindBelowHeading() {
        check.sentence("Terms 3", "and the CELLS of the other ROWS in some COLUMN are together of a KIND that is neither "
            + "WORDS nor EMPTY.");
        for (String cell : new String[] {"1", "1.5", "1/1/2000", "y"}) {
            heading("a|b|c\n" + cell + "|d|", 1);
            heading("a|b|c\nd|" + cell + "|", 1);
            heading("a|b|c\nd||" + cell, 1);
        }
        heading("a|b|c\nd|e|f", 0);
        heading("a|b|c\n||", 0);
        heading("a|b|c\nd||f", 0);
        heading("a\n1\n2\n3\n4\nb", 1);
        heading("a\n1\n2\n3\nb", 0);
        heading("a|b\nc|d\n" + "|1\n".repeat(4), 1);
        heading("a|b\nc|d\n" + "|1\n".repeat(3), 0);
        heading(Texts.row(20, "a") + "\n" + Texts.row(19, "") + "|1", 1);
        heading(Texts.row(21, "a") + "\n" + Texts.row(20, "") + "|1", 0);
        Tallow share = Texts.bars("a\n1\n2\nb");
        share.setShare(66);
        check.same("two of three with 66", share.used(2), 1);
        share.setShare(67);
        check.same("two of three with 67", share.used(2), 0);
    }

    private static void data() {
        check.sentence("Terms 3", "DATA are all ROWS but the HEADING, if there is one.");
        Tallow guessed = Texts.bars("a\n1\n2");
        check.same("data behind a heading", guessed.many(3), 2);
        check.same("kept behind a heading", Shown.kept(guessed), "1 2");
        Tallow none = Texts.bars("a\nb\nc");
        check.same("data without a heading", none.many(3), 3);
        check.same("kept without a heading", Shown.kept(none), "0 1 2");
        Tallow told = Texts.bars("a\nb\nc");
        told.tell(2, 1);
        check.same("data behind a heading that is told", told.many(3), 2);
        told.tell(2, 0);
        check.same("data if none is told", told.many(3), 3);
        Tallow one = Texts.bars("a");
        one.tell(2, 1);
        check.same("data of a heading alone", one.many(3), 0);
        one.tell(2, 0);
        check.same("data of one row", one.many(3), 1);
        Tallow nothing = new Tallow();
        nothing.tell(2, 1);
        check.same("data without rows", nothing.many(3), 0);
        check.same("kept without rows", nothing.many(5), 0);
    }

    private static void kindOfColumn() {
        check.sentence("Terms 3", "The KIND of a COLUMN is that of its CELLS in DATA together.");
        Tallow importer = Texts.bars("a|b\n1|c\n2|d");
        check.same("with the heading guessed", importer.column(0, 0), WHOLE);
        check.same("of the next column", importer.column(1, 0), WORDS);
        importer.tell(2, 0);
        check.same("without heading", importer.column(0, 0), WORDS);
        Tallow alone = Texts.bars("1|2");
        check.same("of one row", alone.column(1, 0), WHOLE);
        alone.tell(2, 1);
        check.same("of no data", alone.column(1, 0), EMPTY);
        check.same("of cells in short rows", Texts.data("1|a\n2|b\n3").column(0, 0), WHOLE);
        check.same("of cells in wide rows", Texts.data("a|1\nb|2\nc|3|d").column(1, 0), WHOLE);
        check.same("of the 20th column", Texts.data(Texts.row(19, "a") + "|1").column(19, 0), WHOLE);
    }
}
