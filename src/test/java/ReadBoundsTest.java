import java.util.function.Consumer;
import java.util.function.Supplier;

/** The boundaries that the document names in promises 10 to 15: what is read. */
public final class ReadBoundsTest {
    private static final Class<IllegalArgumentException> BAD = IllegalArgumentException.class;
    private static final Class<IndexOutOfBoundsException> NO_SUCH = IndexOutOfBoundsException.class;
    private static final int LEAST = Integer.MIN_VALUE;
    private static final int GREATEST = Integer.MAX_VALUE;
    private static final Check check = new Check("ReadBoundsTest");

    public static void main(String[] args) {
        used();
        usedRange();
        score();
        scoreRange();
        many();
        manyRange();
        width();
        widthReturns();
        widthOfNoRow();
        cellOfRow();
        cellOfColumn();
        factsOfCell();
        noSuchCell();
        cellRange();
        signOfRow();
        signOfColumn();
        signOfPlace();
        noSign();
        signOfNoCell();
        check.end();
    }

    /** Two rows, the first of three cells, the second of one; no heading. */
    private static Tallow narrow() {
        return Texts.data("ab|\"c\"d|\n1");
    }

    /** A heading and one row. */
    private static Tallow headed() {
        return Texts.bars("ab|c\n1|\"\"");
    }

    private static Tallow noRows() {
        return Texts.bars(" \n");
    }

    private static void refused(String call, Supplier<Tallow> maker, Class<? extends RuntimeException> due,
        Consumer<Tallow> made) {
        check.refused(call, maker, due, made);
    }

    private static void used() {
        check.sentence("Promise 10", "`what`: 0 PARTER, 1 MARK, 2 HEADING (1 or 0), as told (also without ROWS), or "
            + "guessed Returns that.");
        for (int what = 0; what <= 2; what++) {
            check.same("guessed without rows " + what, new Tallow().used(what), 0);
            Tallow none = new Tallow();
            none.tell(what, 1);
            check.same("told without rows " + what, none.used(what), 1);
            Tallow importer = Check.of("a;b\n1,5;2");
            check.same("guessed " + what, importer.used(what), 1);
            importer.tell(what, 0);
            check.same("told " + what, importer.used(what), 0);
        }
        Tallow bar = new Tallow();
        bar.tell(0, 3);
        check.same("the greatest PARTER told", bar.used(0), 3);
        check.same("the greatest PARTER guessed", Check.of("|").used(0), 3);
        Tallow one = Check.of("a");
        one.tell(2, 1);
        check.same("a heading told of one row", one.used(2), 1);
    }

    private static void usedRange() {
        check.sentence("Promise 10", "Throws `IllegalArgumentException` if what is not 0 to 2");
        check.same("used(0)", headed().used(0), 3);
        check.same("used(2)", headed().used(2), 1);
        for (int what : new int[] {-1, 3, LEAST, GREATEST}) {
            refused("used(" + what + ")", ReadBoundsTest::headed, BAD, importer -> importer.used(what));
        }
    }

    private static void score() {
        check.sentence("Promise 11", "`parter`: one of 0 to 3 Returns its SCORE.");
        int[] due = {102, 103, 104, 105};
        for (int parter = 0; parter <= 3; parter++) {
            Tallow importer = Check.of("a,b;c;d\te\tf\tg|h|i|j|k");
            check.same("score(" + parter + ")", importer.score(parter), due[parter]);
            importer.tell(0, 0);
            check.same("score(" + parter + ") with another told", importer.score(parter), due[parter]);
            check.same("score(" + parter + ") without rows", new Tallow().score(parter), 0);
        }
    }

    private static void scoreRange() {
        check.sentence("Promise 11", "Throws `IllegalArgumentException` if parter is not 0 to 3");
        check.same("score(0)", headed().score(0), 0);
        check.same("score(3)", headed().score(3), 102);
        for (int parter : new int[] {-1, 4, LEAST, GREATEST}) {
            refused("score(" + parter + ")", ReadBoundsTest::headed, BAD, importer -> importer.score(parter));
        }
    }

    private static void many() {
        check.sentence("Promise 12", "`what`: 0 SIGNS, 1 ROWS, 2 COLUMNS, 3 ROWS of DATA, 4 FAULTS, 5 KEPT ROWS, "
            + "6 CELLS that are QUOTED (of all ROWS) Returns how many there are.");
        int[] due = {29, 5, 2, 4, 4, 1, 3};
        Tallow importer = Texts.bars("\"ab\"|c\n1|2\n1|2\n\"3\"4|\"5\"6|7\n8\n");
        for (int what = 0; what <= 6; what++) {
            check.same("many(" + what + ") without rows", noRows().many(what), what == 0 ? 2 : 0);
            check.same("many(" + what + ")", importer.many(what), due[what]);
        }
        Tallow heading = Texts.bars("\"ab\"|c\n1|2");
        check.same("there is a heading", heading.used(2), 1);
        check.same("a quoted cell of the heading", heading.many(6), 1);
        check.same("20 quoted cells", Texts.bars("\"\"|".repeat(19) + "\"\"\n").many(6), 20);
        Tallow faulty = manyFaults();
        check.same("a fault of each of 24 * 20 cells", faulty.many(4), 480);
        check.same("the column of the last fault", faulty.fault(479, 1), 19);
    }

    /** As many faults as 512 calls can make and look at. */
    private static Tallow manyFaults() {
        Tallow importer = Texts.bars(("|".repeat(19) + "\n").repeat(24));
        for (int column = 0; column < 20; column++) {
            importer.setRule(column, 1);
        }
        return importer;
    }

    private static void manyRange() {
        check.sentence("Promise 12", "Throws `IllegalArgumentException` if what is not 0 to 6");
        check.same("many(0)", narrow().many(0), 10);
        check.same("many(6)", narrow().many(6), 1);
        for (int what : new int[] {-1, 7, LEAST, GREATEST}) {
            refused("many(" + what + ")", ReadBoundsTest::narrow, BAD, importer -> importer.many(what));
        }
    }

    private static void width() {
        check.sentence("Promise 13", "`row`: a ROW, from 0, the HEADING, too");
        check.same("the first row", narrow().width(0), 3);
        check.same("the last row", narrow().width(1), 1);
        Tallow importer = headed();
        check.same("there is a heading", importer.used(2), 1);
        check.same("the heading", importer.width(0), 2);
        importer.tell(2, 0);
        check.same("the first row without heading", importer.width(0), 2);
    }

    private static void widthReturns() {
        check.sentence("Promise 13", "Returns its WIDTH.");
        check.same("of one cell", Texts.bars("a").width(0), 1);
        check.same("of one cell without signs", Texts.bars("\"\"").width(0), 1);
        check.same("of two", Texts.bars("|").width(0), 2);
        check.same("of 20", Texts.bars("|".repeat(19)).width(0), 20);
        check.same("of 21", Texts.bars("|".repeat(20)).width(0), 21);
        check.same("of 500", Texts.bars("|".repeat(499)).width(0), 500);
        check.same("of 501", Texts.bars("|".repeat(500)).width(0), 501);
        check.same("of a row behind a wide one", Texts.bars("|".repeat(30) + "\n||").width(1), 3);
    }

    private static void noSuchRow(String call, Supplier<Tallow> maker, int rows, Asked asked) {
        for (int row : new int[] {-1, rows, LEAST, GREATEST}) {
            refused(call + " of row " + row, maker, NO_SUCH, importer -> asked.of(importer, row));
        }
    }

    /** A call that is given one number. */
    private interface Asked {
        void of(Tallow importer, int number);
    }

    private static void widthOfNoRow() {
        check.sentence("Promise 13", "Throws `IndexOutOfBoundsException` if there is no such ROW");
        check.same("the last row", narrow().width(1), 1);
        noSuchRow("width", ReadBoundsTest::narrow, 2, (importer, row) -> importer.width(row));
        check.same("the last of 60", Texts.bars("a\n".repeat(61)).width(59), 1);
        noSuchRow("width", () -> Texts.bars("a\n".repeat(61)), 60, (importer, row) -> importer.width(row));
        noSuchRow("width", ReadBoundsTest::noRows, 0, (importer, row) -> importer.width(row));
        noSuchRow("width", Tallow::new, 0, (importer, row) -> importer.width(row));
    }

    private static void cellOfRow() {
        check.sentence("Promise 14", "`row`: a ROW, from 0, the HEADING, too");
        check.same("the first row", narrow().cell(0, 0, 2), 2);
        check.same("the last row", narrow().cell(1, 0, 2), 1);
        check.same("the heading", headed().cell(0, 0, 2), 2);
        check.same("behind the heading", headed().cell(1, 0, 2), 1);
    }

    private static void cellOfColumn() {
        check.sentence("Promise 14", "`column`: the place of a CELL in it, from 0");
        int[] due = {2, 2, 0};
        for (int column = 0; column <= 2; column++) {
            check.same("signs of " + column, narrow().cell(0, column, 2), due[column]);
        }
        check.same("a cell behind the columns", Texts.data("1\n2\n3|abc").cell(2, 1, 2), 3);
        check.same("the 20th", Texts.data(Texts.row(19, "") + "|abc|d").cell(0, 19, 2), 3);
    }

    private static void factsOfCell() {
        check.sentence("Promise 14", "`what`: 0 its KIND, 1 its VALUE, 2 how many SIGNS it has, 3 its FAULT as it is "
            + "read (0, 1 or 2), 4 whether it is QUOTED (1 or 0) Returns that.");
        facts("", new int[] {0, 0, 0, 0, 0});
        facts("a", new int[] {5, 1, 1, 0, 0});
        facts("-12", new int[] {1, -12, 3, 0, 0});
        facts("\"1.5\"", new int[] {2, 1500, 3, 0, 1});
        facts("\"2/1\"/1900", new int[] {3, 1, 8, 1, 1});
        facts("\"\"y", new int[] {4, 1, 1, 1, 1});
        facts("\"abc", new int[] {5, 4, 4, 2, 1});
        facts("\"", new int[] {5, 1, 1, 2, 1});
        Tallow decimals = Texts.data("1\n2.5");
        check.same("its own KIND, in a column of another", decimals.cell(0, 0, 0), 1);
        check.same("its own VALUE, in a column of another", decimals.cell(0, 0, 1), 1);
        Tallow fault = Texts.data("1\n2\n3\n4\n5|");
        check.same("a FAULT that is not as read", fault.cell(4, 0, 3), 0);
        Tallow empty = Texts.data("a|");
        empty.setRule(1, 1);
        check.same("FAULT 6 is not as read", empty.cell(0, 1, 3), 0);
        check.same("500 signs", Texts.withSigns(500).cell(0, 0, 2), 500);
    }

    private static void facts(String cell, int[] due) {
        for (int what = 0; what <= 4; what++) {
            check.same("cell(0, 0, " + what + ") of " + cell, Texts.bars(cell + "|").cell(0, 0, what), due[what]);
        }
    }

    private static void noSuchCell() {
        check.sentence("Promise 14", "Throws `IndexOutOfBoundsException` if there is no such ROW, or CELL");
        check.same("the last of the first row", narrow().cell(0, 2, 2), 0);
        check.same("the last of the last row", narrow().cell(1, 0, 2), 1);
        noSuchRow("cell", ReadBoundsTest::narrow, 2, (importer, row) -> importer.cell(row, 0, 2));
        noSuchRow("cell", ReadBoundsTest::noRows, 0, (importer, row) -> importer.cell(row, 0, 2));
        noSuchRow("cell", () -> Texts.bars("a\n".repeat(61)), 60, (importer, row) -> importer.cell(row, 0, 2));
        noSuchColumns("cell", (importer, row, column) -> importer.cell(row, column, 2));
    }

    /** A call that is given a row and a column. */
    private interface AskedOfCell {
        void of(Tallow importer, int row, int column);
    }

    private static void noSuchColumns(String call, AskedOfCell asked) {
        for (int column : new int[] {-1, 3, LEAST, GREATEST}) {
            refused(call + " of 0, " + column, ReadBoundsTest::narrow, NO_SUCH,
                importer -> asked.of(importer, 0, column));
        }
        for (int column : new int[] {-1, 1, 2, LEAST, GREATEST}) {
            refused(call + " of 1, " + column, ReadBoundsTest::narrow, NO_SUCH,
                importer -> asked.of(importer, 1, column));
        }
        refused(call + " of the 21st", () -> Texts.bars("|".repeat(20)), NO_SUCH,
            importer -> asked.of(importer, 0, 20));
        refused(call + " of the 20th of 19", () -> Texts.bars("|".repeat(18) + "\n||"), NO_SUCH,
            importer -> asked.of(importer, 0, 19));
    }

    private static void cellRange() {
        check.sentence("Promise 14", "Throws `IllegalArgumentException` if what is not 0 to 4");
        check.same("cell(0, 1, 0)", narrow().cell(0, 1, 0), 5);
        check.same("cell(0, 1, 4)", narrow().cell(0, 1, 4), 1);
        for (int what : new int[] {-1, 5, LEAST, GREATEST}) {
            refused("cell(0, 1, " + what + ")", ReadBoundsTest::narrow, BAD, importer -> importer.cell(0, 1, what));
        }
    }

    private static void signOfRow() {
        check.sentence("Promise 15", "`row`: a ROW, from 0, the HEADING, too");
        check.same("the first row", narrow().signAt(0, 0, 0), 20);
        check.same("the last row", narrow().signAt(1, 0, 0), 11);
        check.same("the heading", headed().signAt(0, 1, 0), 22);
        check.same("behind the heading", headed().signAt(1, 0, 0), 11);
    }

    private static void signOfColumn() {
        check.sentence("Promise 15", "`column`: the place of a CELL in it, from 0");
        check.same("the first cell", narrow().signAt(0, 0, 1), 21);
        check.same("the second cell", narrow().signAt(0, 1, 1), 23);
        check.same("the last cell", narrow().signAt(0, 2, 0), -1);
        check.same("a cell behind the columns", Texts.data("1\n2\n3|ab").signAt(2, 1, 1), 21);
        check.same("the 20th cell", Texts.data(Texts.row(19, "") + "|abc|d").signAt(0, 19, 2), 22);
    }

    private static void signOfPlace() {
        check.sentence("Promise 15", "`place`: a place in that, from 0");
        Tallow importer = Texts.bars(" ab |\"c\"\"d\"e");
        int[] due = {20, 21};
        int[] dueOfQuoted = {22, 4, 23, 24};
        for (int place = 0; place < due.length; place++) {
            check.same("place " + place, importer.signAt(0, 0, place), due[place]);
        }
        for (int place = 0; place < dueOfQuoted.length; place++) {
            check.same("place " + place + " of a quoted cell", importer.signAt(0, 1, place), dueOfQuoted[place]);
        }
    }

    private static void noSign() {
        check.sentence("Promise 15", "Returns the SIGN there; -1 if there is none.");
        Tallow importer = narrow();
        check.same("the first place", importer.signAt(0, 0, 0), 20);
        check.same("the last place", importer.signAt(0, 0, 1), 21);
        for (int place : new int[] {-1, 2, 3, LEAST, GREATEST}) {
            check.same("place " + place, importer.signAt(0, 0, place), -1);
        }
        for (int place : new int[] {-1, 0, 1, LEAST, GREATEST}) {
            check.same("place " + place + " of a cell without signs", importer.signAt(0, 2, place), -1);
        }
        check.same("sign 0", Texts.bars(",|").signAt(0, 0, 0), 0);
        check.same("sign 45", Texts.bars("z|").signAt(0, 0, 0), 45);
        Tallow full = Texts.withSigns(500);
        check.same("place 499 of 500", full.signAt(0, 0, 499), 27);
        check.same("place 500 of 500", full.signAt(0, 0, 500), -1);
    }

    private static void signOfNoCell() {
        check.sentence("Promise 15", "Throws `IndexOutOfBoundsException` if there is no such ROW, or CELL");
        check.same("the last cell of the first row", narrow().signAt(0, 2, 0), -1);
        check.same("the last row", narrow().signAt(1, 0, 1), -1);
        noSuchRow("signAt", ReadBoundsTest::narrow, 2, (importer, row) -> importer.signAt(row, 0, 0));
        noSuchRow("signAt", ReadBoundsTest::noRows, 0, (importer, row) -> importer.signAt(row, 0, 0));
        noSuchRow("signAt, no place", ReadBoundsTest::narrow, 2, (importer, row) -> importer.signAt(row, 0, -1));
        noSuchColumns("signAt", (importer, row, column) -> importer.signAt(row, column, 0));
    }
}
