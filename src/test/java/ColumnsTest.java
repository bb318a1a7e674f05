/** Promises 16 to 19: column, extreme, sum and mean. */
public final class ColumnsTest {
    private static final Class<IllegalArgumentException> BAD_ARGUMENT = IllegalArgumentException.class;
    private static final Class<IndexOutOfBoundsException> NO_SUCH = IndexOutOfBoundsException.class;
    private static final Check check = new Check("ColumnsTest");

    public static void main(String[] args) {
        kindOfColumn();
        countsOfColumn();
        extremes();
        sumsAndMeans();
        wrongArguments();
        check.end();
    }

    private static Tallow parted(String text, int parter) {
        Tallow importer = Check.of(text);
        importer.tell(0, parter);
        importer.tell(2, 0);
        return importer;
    }

    /** The kind of one column that has these cells, with this share. */
    private static void kind(String cells, int share, int due) {
        Tallow importer = parted(cells.replace(' ', '\n') + "\n", 3);
        importer.setShare(share);
        check.same("kind of " + cells + " with " + share, importer.column(0, 0), due);
    }

    private static void kindOfColumn() {
        kind("1 2", 100, 1);
        kind("1 2.5", 100, 2);
        kind("1 2 3 2.5", 100, 2);
        kind("1/1/2000 2/1/2000", 100, 3);
        kind("y n y", 100, 4);
        kind("a bc", 1, 5);
        kind("\"\" \"\"", 80, 0);
        kind("1 2 3 4 a", 80, 1);
        kind("1 2 3 4 a", 81, 5);
        kind("1 2 3 a", 75, 1);
        kind("1 2 3 a", 76, 5);
        kind("1 2 a", 66, 1);
        kind("1 2 a", 67, 5);
        kind("\"\" \"\" 1", 100, 1);
        kind("1 y", 50, 1);
        kind("1/1/2000 y", 50, 3);
        kind("1.5 1/1/2000", 50, 2);
        kind("1 1/1/2000", 50, 1);
        kind("y y 1 2.5", 50, 2);
        kind("y y y 1 2.5", 40, 4);
        kind("1 1 y y 2/1/1900 2/1/1900", 33, 1);
        kind("a b 1", 33, 1);
        kind("a b 1", 34, 5);
        Tallow heading = Check.of("a,b\n1,2\n");
        check.same("the heading is not in a column", heading.column(0, 0), 1);
        heading.tell(2, 0);
        check.same("without heading it is", heading.column(0, 0), 5);
        Tallow none = Check.of("1,2\n");
        none.tell(2, 1);
        check.same("a column without data is empty", none.column(0, 0), 0);
    }

    private static void countsOfColumn() {
        Tallow importer = parted("1,x\n1,\n2,x\n,y\n3\n1,z,7\n", 0);
        int[][] due = {{1, 5, 1, 0, 3}, {5, 4, 1, 0, 3}};
        for (int column = 0; column < 2; column++) {
            for (int what = 0; what <= 4; what++) {
                check.same("column(" + column + ", " + what + ")", importer.column(column, what), due[column][what]);
            }
        }
        importer.setRule(0, 3);
        check.same("faults of rule 3", importer.column(0, 3), 3);
        check.same("a rule does not change the next column", importer.column(1, 3), 0);
        check.same("other signs of the same value count", parted("1|1\n01|1\n1.0|1\n", 3).column(0, 4), 3);
        check.same("the same signs, quoted or not", parted("1|\n\"1\"|\n", 3).column(0, 4), 1);
        check.same("signs of another column do not count", parted("1|2\n2|1\n", 3).column(0, 4), 2);
        Tallow heading = parted("a|b\na|c\n", 3);
        heading.tell(2, 1);
        check.same("signs of the heading do not count", heading.column(0, 4), 1);
        check.same("cells of the heading do not count", heading.column(0, 1), 1);
    }

    private static void extremes() {
        Tallow importer = parted("5|1.5\n-3|2\n\"\"|-0.25\n7|x\n", 3);
        importer.setShare(70);
        check.same("three rows are kept", importer.many(5), 3);
        check.same("least whole", importer.extreme(0, 0), -3);
        check.same("greatest whole, of kept rows", importer.extreme(0, 1), 5);
        check.same("least decimal", importer.extreme(1, 0), -250);
        check.same("greatest decimal, of a whole cell", importer.extreme(1, 1), 2000);
        importer.setShare(80);
        check.same("the least words", importer.extreme(1, 0), 1);
        check.same("the longest words", importer.extreme(1, 1), 5);
        Tallow allAboveZero = parted("5\n7\n", 3);
        check.same("least above 0", allAboveZero.extreme(0, 0), 5);
        Tallow allBelowZero = parted("-5\n-7\n", 3);
        check.same("greatest below 0", allBelowZero.extreme(0, 1), -5);
        Tallow empty = parted("|1\n", 3);
        check.same("least of nothing", empty.extreme(0, 0), 0);
        check.same("greatest of nothing", empty.extreme(0, 1), 0);
        Tallow dates = parted("2/1/1900\n1/1/1901\n", 3);
        check.same("least date", dates.extreme(0, 0), 1);
        check.same("greatest date", dates.extreme(0, 1), 365);
    }

    private static void sumsAndMeans() {
        Tallow importer = parted("5|y\n-3|n\n\"\"|y\n7|zz\n", 3);
        importer.setShare(70);
        check.same("sum of whole", importer.sum(0), 2);
        check.same("mean of whole, empty ones left out", importer.mean(0), 1.0);
        check.same("sum of flags", importer.sum(1), 2);
        check.same("mean is not cut", importer.mean(1), 2.0 / 3.0);
        Tallow mixed = parted("1.5\n2\n", 3);
        check.same("sum of thousandths", mixed.sum(0), 3500);
        check.same("mean of thousandths", mixed.mean(0), 1750.0);
        Tallow words = parted("12|a\nab|bb\n", 3);
        check.same("sum of signs", words.sum(0), 4);
        check.same("mean of signs", words.mean(1), 1.5);
        Tallow empty = parted("|1\n", 3);
        check.same("sum of nothing", empty.sum(0), 0);
        check.same("mean of nothing", empty.mean(0), 0.0);
        Tallow great = parted("999999\n999998\n999997.1\n999996\n", 3);
        check.same("a sum that no int holds", great.sum(0), 3999990100L);
        check.same("a mean of that", great.mean(0), 999997525.0);
        Tallow once = parted("4\n4\n5\n", 3);
        check.same("the same row counts once", once.sum(0), 9);
        check.same("and once in the mean", once.mean(0), 4.5);
    }

    private static void wrongArguments() {
        Tallow importer = parted("1|2\n3|4|5\n6|7\n", 3);
        for (int column : new int[] {-1, 2, 20, Integer.MIN_VALUE, Integer.MAX_VALUE}) {
            check.fails("column(" + column + ", 0)", importer, NO_SUCH, () -> importer.column(column, 0));
            check.fails("column(" + column + ", 5)", importer, NO_SUCH, () -> importer.column(column, 5));
            check.fails("extreme(" + column + ", 0)", importer, NO_SUCH, () -> importer.extreme(column, 0));
            check.fails("extreme(" + column + ", 2)", importer, NO_SUCH, () -> importer.extreme(column, 2));
            check.fails("sum(" + column + ")", importer, NO_SUCH, () -> importer.sum(column));
            check.fails("mean(" + column + ")", importer, NO_SUCH, () -> importer.mean(column));
        }
        for (int what : new int[] {-1, 5, Integer.MIN_VALUE, Integer.MAX_VALUE}) {
            check.fails("column(1, " + what + ")", importer, BAD_ARGUMENT, () -> importer.column(1, what));
            check.fails("extreme(1, " + what + ")", importer, BAD_ARGUMENT, () -> importer.extreme(1, what));
        }
        check.fails("extreme(1, 2)", importer, BAD_ARGUMENT, () -> importer.extreme(1, 2));
    }
}
