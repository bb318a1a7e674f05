import java.util.function.Consumer;
import java.util.function.Supplier;

/** The boundaries that the document names in promises 16 to 19: columns. */
public final class ColumnBoundsTest {
    private static final Class<IllegalArgumentException> BAD = IllegalArgumentException.class;
    private static final Class<IndexOutOfBoundsException> NO_SUCH = IndexOutOfBoundsException.class;
    private static final int LEAST = Integer.MIN_VALUE;
    private static final int GREATEST = Integer.MAX_VALUE;
    private static final Check check = new Check("ColumnBoundsTest");

    public static void main(String[] args) {
        columns();
        factsOfColumn();
        faultsInColumn();
        otherSigns();
        columnOfNone();
        columnRange();
        columnsOfExtreme();
        extremes();
        extremeOfNone();
        extremeOfNoColumn();
        extremeRange();
        columnsOfSum();
        sums();
        sumOfNoColumn();
        columnsOfMean();
        means();
        meanOfNoColumn();
        check.end();
    }

    /** Two columns, with a third cell in one row. */
    private static Tallow two() {
        return Texts.data("1|ab\n2|cde\n3|f|7");
    }

    /** A call that is given a column. */
    private interface Asked {
        void of(Tallow importer, int column);
    }

    private static void refused(String call, Supplier<Tallow> maker, Class<? extends RuntimeException> due,
        Consumer<Tallow> made) {
        check.refused(call, maker, due, made);
    }

    /** The columns on both sides of those that are there, of two, of twenty, of one alone and of none. */
    private static void noSuchColumn(String call, Asked asked) {
        for (int column : new int[] {-1, 2, 19, 20, LEAST, GREATEST}) {
            refused(call + " of column " + column + " of 2", ColumnBoundsTest::two, NO_SUCH,
                importer -> asked.of(importer, column));
        }
        refused(call + " of column 20 of 21 cells", () -> Texts.data("|".repeat(20)), NO_SUCH,
            importer -> asked.of(importer, 20));
        refused(call + " of column 1 of 1", () -> Texts.data("a\nb\nc|d"), NO_SUCH, importer -> asked.of(importer, 1));
        refused(call + " of column 0 of none", () -> Texts.data("\n "), NO_SUCH, importer -> asked.of(importer, 0));
        refused(call + " of column 0 of nothing", Tallow::new, NO_SUCH, importer -> asked.of(importer, 0));
    }

    private static void column(String cells, int what, int due) {
        check.same("column(0, " + what + ") of " + cells, Texts.column(cells).column(0, what), due);
    }

    private static void columns() {
        check.sentence("Promise 16", "`column`: a COLUMN");
        check.same("the first", two().column(0, 0), 1);
        check.same("the last", two().column(1, 0), 5);
        check.same("the 20th", Texts.data(Texts.row(19, "1") + "|y").column(19, 0), 4);
        check.same("the 20th, if there are more cells", Texts.data(Texts.row(19, "1") + "|y|a").column(19, 0), 4);
    }

    private static void factsOfColumn() {
        check.sentence("Promise 16", "`what`: 0 its KIND, 1 how many of its CELLS in DATA are not EMPTY, "
            + "2 how many are EMPTY, 3 how many FAULTS are in it,");
        column("1 2", 0, 1);
        column("\"\"", 0, 0);
        column("\"\"", 1, 0);
        column("\"\"", 2, 1);
        column("a", 1, 1);
        column("a", 2, 0);
        column("a \"\" a \"\" \"\"", 1, 2);
        column("a \"\" a \"\" \"\"", 2, 3);
        check.same("not EMPTY, of short rows and wide ones", Texts.data("1|2\n3|4|5\n6").column(1, 1), 2);
        check.same("EMPTY, of short rows and wide ones", Texts.data("|\n||\n\"\"").column(1, 2), 2);
        Tallow headed = Texts.data("a|\nb|\n|c");
        check.same("not EMPTY without heading", headed.column(0, 1), 2);
        check.same("EMPTY without heading", headed.column(1, 2), 2);
        headed.tell(2, 1);
        check.same("not EMPTY behind the heading", headed.column(0, 1), 1);
        check.same("EMPTY behind the heading", headed.column(1, 2), 1);
        Tallow alone = Texts.data("a");
        alone.tell(2, 1);
        for (int what = 0; what <= 4; what++) {
            check.same("column(0, " + what + ") without data", alone.column(0, what), 0);
        }
        check.same("60 cells", Texts.data("a\n".repeat(61)).column(0, 1), 60);
        check.same("60 EMPTY cells", Texts.data("|\n".repeat(61)).column(1, 2), 60);
    }

    private static void faultsInColumn() {
        check.sentence("Promise 16", "3 how many FAULTS are in it,");
        check.same("none", Texts.data("1|2").column(0, 3), 0);
        check.same("one", Texts.data("\"1\"2|2").column(0, 3), 1);
        check.same("none of the next", Texts.data("\"1\"2|2").column(1, 3), 0);
        check.same("none of the one ahead", Texts.data("1|\"2\"3").column(0, 3), 0);
        check.same("one of the last", Texts.data("1|\"2\"3").column(1, 3), 1);
        check.same("of rows that are too short or too wide", Texts.data("1|2\n3|4\n5\n6|7|8").column(0, 3), 0);
        Tallow ruled = Texts.column("\"\" \"\" a a a");
        ruled.setRule(0, 3);
        check.same("EMPTY twice, and two repeated", ruled.column(0, 3), 4);
        ruled.setRule(0, 0);
        check.same("without RULE", ruled.column(0, 3), 0);
    }

    private static void otherSigns() {
        check.sentence("Promise 16", "4 how many of those that are not EMPTY have other SIGNS than all ahead of them in "
            + "DATA Returns that.");
        column("a", 4, 1);
        column("a a", 4, 1);
        column("a b", 4, 2);
        column("a b a c b a", 4, 3);
        column("\"\"", 4, 0);
        column("\"\" \"\" a \"\"", 4, 1);
        column("1 01 1.0 \"1\"", 4, 3);
        check.same("60 other ones", Texts.column(numbers(10, 70)).column(0, 4), 60);
        check.same("59 other ones", Texts.column(numbers(11, 70) + " 11").column(0, 4), 59);
        check.same("signs of the next column", Texts.data("a|b\nb|a").column(0, 4), 2);
        check.same("of short rows", Texts.data("a|b\na\nc|d\nc").column(0, 4), 2);
        check.same("without the cells that short rows have not", Texts.data("a|b\na\nc|d\nc").column(1, 4), 2);
        Tallow headed = Texts.data("a\na\nb");
        check.same("without heading", headed.column(0, 4), 2);
        headed.tell(2, 1);
        check.same("behind the heading", headed.column(0, 4), 2);
        Tallow same = Texts.data("a\nb");
        same.tell(2, 1);
        check.same("as the heading, no more", same.column(0, 4), 1);
    }

    private static String numbers(int from, int to) {
        StringBuilder shown = new StringBuilder();
        for (int number = from; number < to; number++) {
            shown.append(number == from ? "" : " ").append(number);
        }
        return shown.toString();
    }

    private static void columnOfNone() {
        check.sentence("Promise 16", "Throws `IndexOutOfBoundsException` if there is no such COLUMN");
        check.same("column 0 of 2", two().column(0, 1), 3);
        check.same("column 1 of 2", two().column(1, 1), 3);
        check.same("column 19 of 21 cells", Texts.data("|".repeat(20)).column(19, 2), 1);
        noSuchColumn("column", (importer, column) -> importer.column(column, 0));
    }

    private static void columnRange() {
        check.sentence("Promise 16", "Throws `IllegalArgumentException` if what is not 0 to 4");
        check.same("column(1, 0)", two().column(1, 0), 5);
        check.same("column(1, 4)", two().column(1, 4), 3);
        for (int what : new int[] {-1, 5, LEAST, GREATEST}) {
            refused("column(1, " + what + ")", ColumnBoundsTest::two, BAD, importer -> importer.column(1, what));
        }
    }

    private static void columnsOfExtreme() {
        check.sentence("Promise 17", "`column`: a COLUMN");
        check.same("the first", two().extreme(0, 1), 2);
        check.same("the last", two().extreme(1, 1), 3);
        check.same("the 20th", Texts.data(Texts.row(19, "1") + "|7").extreme(19, 0), 7);
    }

    private static void extremes(String cells, int least, int greatest) {
        check.same("least of " + cells, Texts.column(cells).extreme(0, 0), least);
        check.same("greatest of " + cells, Texts.column(cells).extreme(0, 1), greatest);
    }

    private static void extremes() {
        check.sentence("Promise 17", "`what`: 0 the least VALUE there, as the COLUMN's KIND has it, 1 the greatest one, "
            + "of CELLS of KEPT ROWS that are not EMPTY");
        extremes("5", 5, 5);
        extremes("5 3 7 4", 3, 7);
        extremes("-5 -3 -7", -7, -3);
        extremes("5 3 \"\"", 3, 5);
        extremes("\"\" -5 -3", -5, -3);
        extremes("1 2 3 4 5 6 7 8 \"9\"9", 1, 8);
        extremes("1.5 2 1", 1000, 2000);
        extremes("-999999 0.001 999999.999", -999999000, 999999999);
        extremes("1/1/1900 31/12/2099", 0, 73048);
        extremes("y n", 0, 1);
        extremes("y", 1, 1);
        extremes("n", 0, 0);
        extremes("1234 12 a \"\"", 1, 4);
        check.same("least of a row that is kept once", Texts.data("1|2\n1|2\n0|2|3").extreme(0, 0), 1);
        Tallow headed = Texts.data("1\n2\n3");
        headed.tell(2, 1);
        check.same("least behind the heading", headed.extreme(0, 0), 2);
        check.same("500 signs", Texts.withSigns(500).extreme(0, 0), 500);
    }

    private static void extremeOfNone() {
        check.sentence("Promise 17", "Returns that; 0 without any.");
        extremes("\"\"", 0, 0);
        extremes("\"\" 4", 4, 4);
        extremes("\"a\"b", 0, 0);
        extremes("\"a\"b abc", 3, 3);
        Tallow alone = Texts.data("5");
        check.same("of one row", alone.extreme(0, 1), 5);
        alone.tell(2, 1);
        check.same("without data, least", alone.extreme(0, 0), 0);
        check.same("without data, greatest", alone.extreme(0, 1), 0);
    }

    private static void extremeOfNoColumn() {
        check.sentence("Promise 17", "Throws `IndexOutOfBoundsException` if there is no such COLUMN");
        check.same("column 0 of 2", two().extreme(0, 0), 1);
        check.same("column 1 of 2", two().extreme(1, 0), 2);
        noSuchColumn("extreme", (importer, column) -> importer.extreme(column, 0));
    }

    private static void extremeRange() {
        check.sentence("Promise 17", "Throws `IllegalArgumentException` if what is neither");
        check.same("extreme(1, 0)", two().extreme(1, 0), 2);
        check.same("extreme(1, 1)", two().extreme(1, 1), 3);
        for (int what : new int[] {-1, 2, LEAST, GREATEST}) {
            refused("extreme(1, " + what + ")", ColumnBoundsTest::two, BAD, importer -> importer.extreme(1, what));
        }
    }

    private static void columnsOfSum() {
        check.sentence("Promise 18", "`column`: a COLUMN");
        check.same("the first", two().sum(0), 3);
        check.same("the last", two().sum(1), 5);
        check.same("the 20th", Texts.data(Texts.row(19, "1") + "|7").sum(19), 7);
    }

    private static void sum(String cells, long due) {
        check.same("sum of " + cells, Texts.column(cells).sum(0), due);
    }

    private static void sums() {
        check.sentence("Promise 18", "Returns the sum of the VALUES there, as the COLUMN's KIND has them, of CELLS of "
            + "KEPT ROWS (EMPTY ones 0).");
        sum("\"\"", 0);
        sum("\"\" 5", 5);
        sum("5 -5 -7", -7);
        sum("1.5 2 \"\"", 3500);
        sum("1/1/1900 2/1/1900 1/1/1901", 366);
        sum("y n \"y\"", 1);
        sum("y a 12", 4);
        sum("5 5 5", 5);
        sum("5 \"6\"6", 5);
        sum("\"6\"6", 0);
        sum("999999.999 999999.998 147.486", 2000147483L);
        sum("999999.999 999999.998 147483.65", 2147483647L);
        sum("999999.999 999999.998 147483.651", 2147483648L);
        sum("-999999.999 -999999.998 -147483.651", -2147483648L);
        sum("-999999.999 -999999.998 -147483.652", -2147483649L);
        Tallow many = Texts.column(great(40));
        check.same("the sum of 40 great values", many.sum(0), 39999960000L - 780L);
        Tallow headed = Texts.data("1\n2\n3");
        headed.tell(2, 1);
        check.same("behind the heading", headed.sum(0), 5);
        check.same("of wide and short rows", Texts.data("1|2\n3|4\n5\n6|7|8").sum(0), 4);
    }

    /** So many values, each less than the one ahead of it by one thousandth: 999999.000, 999998.999, ... */
    private static String great(int many) {
        StringBuilder cells = new StringBuilder("999999");
        for (int i = 1; i < many; i++) {
            cells.append(" 999998.").append(1000 - i);
        }
        return cells.toString();
    }

    private static void sumOfNoColumn() {
        check.sentence("Promise 18", "Throws `IndexOutOfBoundsException` if there is no such COLUMN");
        check.same("column 0 of 2", two().sum(0), 3);
        check.same("column 1 of 2", two().sum(1), 5);
        noSuchColumn("sum", (importer, column) -> importer.sum(column));
    }

    private static void columnsOfMean() {
        check.sentence("Promise 19", "`column`: a COLUMN");
        check.same("the first", two().mean(0), 1.5);
        check.same("the last", two().mean(1), 2.5);
        check.same("the 20th", Texts.data(Texts.row(19, "1") + "|7").mean(19), 7.0);
    }

    private static void mean(String cells, double due) {
        check.same("mean of " + cells, Texts.column(cells).mean(0), due);
    }

    private static void means() {
        check.sentence("Promise 19", "Returns that sum, divided by how many of these CELLS are not EMPTY, not cut; "
            + "0 without any.");
        mean("\"\"", 0.0);
        mean("\"a\"b", 0.0);
        mean("5", 5.0);
        mean("\"\" 5", 5.0);
        mean("1 2", 1.5);
        mean("-1 -2", -1.5);
        mean("0 0 1", 0.5);
        mean("1 2 5", 8.0 / 3.0);
        mean("-1 -2 -5", -8.0 / 3.0);
        mean("1 1 2", 1.5);
        mean("1 -1", 0.0);
        mean("1.5 2", 1750.0);
        mean("y n", 0.5);
        mean("a bc", 1.5);
        mean("999999.999 999999.998 147483.651", 2147483648.0 / 3.0);
        Tallow alone = Texts.data("5");
        check.same("of one row", alone.mean(0), 5.0);
        alone.tell(2, 1);
        check.same("without data", alone.mean(0), 0.0);
    }

    private static void meanOfNoColumn() {
        check.sentence("Promise 19", "Throws `IndexOutOfBoundsException` if there is no such COLUMN");
        check.same("column 0 of 2", two().mean(0), 1.5);
        check.same("column 1 of 2", two().mean(1), 2.5);
        noSuchColumn("mean", (importer, column) -> importer.mean(column));
    }
}
