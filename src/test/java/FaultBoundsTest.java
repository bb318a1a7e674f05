import java.util.function.Consumer;
import java.util.function.Supplier;

/** The boundaries that the document names in Terms 4: faults, rules, kept rows, and calls that throw. */
public final class FaultBoundsTest {
    private static final Class<IllegalArgumentException> BAD = IllegalArgumentException.class;
    private static final Class<IndexOutOfBoundsException> NO_SUCH = IndexOutOfBoundsException.class;
    private static final Class<IllegalStateException> FULL = IllegalStateException.class;
    private static final Check check = new Check("FaultBoundsTest");

    public static void main(String[] args) {
        faultsOfWidth();
        faultsOfCells();
        faultThree();
        faultSix();
        faultSeven();
        rules();
        kept();
        throwsChangeNothing();
        firstExceptionNamed();
        check.end();
    }

    private static void faults(String text, String due) {
        check.same("faults of " + text, Shown.faults(Texts.data(text)), due);
    }

    private static void faults(String text, int rule, String due) {
        Tallow importer = Texts.data(text);
        importer.setRule(0, rule);
        check.same("faults of " + text + " with rule " + rule, Shown.faults(importer), due);
    }

    private static void kept(String text, String due) {
        check.same("kept of " + text, Shown.kept(Texts.data(text)), due);
    }

    private static void faultsOfWidth() {
        check.sentence("Terms 4", "FAULTS, of DATA, ROW by ROW, of each first: 4, if the WIDTH is less than the USUAL "
            + "one, 5, if it is more (of a ROW, its COLUMN is -1);");
        faults("", "");
        faults("1|2|3\n4|5|6", "");
        faults("1|2|3\n4|5|6\n7|8", "2,-1,4");
        faults("1|2|3\n4|5|6\n7|8|9|0", "2,-1,5");
        faults("1|2|3\n4|5|6\n7", "2,-1,4");
        faults("1\n2|3\n4|5|6\n7|8", "0,-1,4 2,-1,5");
        faults("1|2\n3|4\n\"5\"6", "2,-1,4 2,0,1");
        faults("1|2\n3|4\n5|\"6\"7|8", "2,-1,5 2,1,1");
        faults("1|2", "");
        faults("1\n2|3", "0,-1,4");
        String twenty = Texts.row(20, "");
        faults(twenty + "\n" + twenty + "\n" + twenty + "|", "2,-1,5");
        faults(twenty + "|\n" + twenty + "|\n" + twenty, "2,-1,4");
        Tallow headed = Texts.data("1\n2|3\n4\n5|6");
        check.same("without heading", Shown.faults(headed), "0,-1,4 2,-1,4");
        headed.tell(2, 1);
        check.same("the heading is no data", Shown.faults(headed), "2,-1,4");
        Tallow wideHeading = Texts.data("1|2\n3");
        wideHeading.tell(2, 1);
        check.same("the heading counts for the USUAL WIDTH", Shown.faults(wideHeading), "1,-1,4");
    }

    private static void faultsOfCells() {
        check.sentence("Terms 4", "then COLUMN by COLUMN, of a CELL that is there, the first of these that it has: "
            + "1 and 2 as above;");
        faults("\"a\"|b", "");
        faults("\"a\"c|b", "0,0,1");
        faults("a|\"b\"c", "0,1,1");
        faults("\"a\"c|\"b\"d", "0,0,1 0,1,1");
        faults("a|\"b", "0,1,2");
        faults("\"a\"c|\"b", "0,0,1 0,1,2");
        faults("a|b\n\"c\"d|\"e\"f\n\"g\"h|i", "1,0,1 1,1,1 2,0,1");
        faults("1\n2\n3\n4\n\"a\"b", "4,0,1");
        faults("1\n2\n3\n4\n\"a", "4,0,2");
        faults("1\n2\n3\n4\n\"\"5", "4,0,1");
        faults("a\na\n\"\"a", 2, "1,0,7 2,0,1");
        faults("a\nb\n\"", 3, "2,0,2");
        faults("a|b\nc|d\ne", "2,-1,4");
        faults("a\nb\nc|\"d\"e", "2,-1,5");
        String twenty = Texts.row(20, "a");
        faults(Texts.row(19, "a") + "|\"b\"c", "0,19,1");
        faults(twenty + "|\"b\"c", "");
    }

    private static void faultThree() {
        check.sentence("Terms 4", "3, if it is not of the KIND of the COLUMN;");
        faults("1\n2\n3\n4\n5", "");
        faults("1\n2\n3\n4\na", "4,0,3");
        faults("1\n2\n3\na\nb", "");
        faults("1\n2\n3\n4\n\"\"", "");
        faults("1.5\n2\n3\n4\n5", "");
        faults("1.5\n2\n3\n4\ny", "4,0,3");
        faults("y\nn\ny\nn\n1/1/2000", "4,0,3");
        faults("1/1/2000\n2/1/2000\n3/1/2000\n4/1/2000\n1", "4,0,3");
        faults("|a\n|b", "");
        faults("x|1\n2|3\n4|5\n6|7\n8|y", "0,0,3 4,1,3");
        faults("1\n2\n3\n4\na", 3, "4,0,3");
        faults("1|2\n3|4\n5|6\n7|8\nx", "4,-1,4 4,0,3");
        faults("1|2\n3|4\n5|6\n7|8\n9|y|z", "4,-1,5 4,1,3");
        Tallow twice = Texts.data("1\n2\na\na");
        twice.setShare(50);
        twice.setRule(0, 2);
        check.same("3 is ahead of 7", Shown.faults(twice), "2,0,3 3,0,3");
    }

    private static void faultSix() {
        check.sentence("Terms 4", "6, if it is EMPTY, and the COLUMN's RULE is 1 or 3;");
        String text = "a|b\n|c\n\"\"|d\n  |e";
        faults(text, 0, "");
        faults(text, 1, "1,0,6 2,0,6 3,0,6");
        faults(text, 2, "");
        faults(text, 3, "1,0,6 2,0,6 3,0,6");
        faults("a|\nb|", 1, "");
        faults("\" \"|a", 1, "");
        faults("1|b\n2|c\n3", 3, "2,-1,4");
        Tallow last = Texts.data(Texts.row(20, "") + "|");
        last.setRule(19, 1);
        check.same("of the 20th column", Shown.faults(last), "0,19,6");
        last.setRule(19, 0);
        last.setRule(18, 1);
        check.same("of the 19th column", Shown.faults(last), "0,18,6");
    }

    private static void faultSeven() {
        check.sentence("Terms 4", "7, if a CELL of a ROW of DATA ahead of it, right or not, has the same SIGNS in the "
            + "COLUMN, it is not EMPTY, and the RULE is 2 or 3.");
        String text = "1|a\n2|b\n1|c\n1|d";
        faults(text, 0, "");
        faults(text, 1, "");
        faults(text, 2, "2,0,7 3,0,7");
        faults(text, 3, "2,0,7 3,0,7");
        faults("|a\n|b", 2, "");
        faults("|a\n|b", 3, "0,0,6 1,0,6");
        faults("1\n01\n1.0\n-1", 2, "");
        faults("ab\nac\naab\na", 2, "");
        faults("1\n\"1\"\n 1 ", 2, "1,0,7 2,0,7");
        faults("1|2\n2|1", 2, "");
        faults("1|1\n2|2", 2, "");
        faults("1|2\n3\n3|4", 2, "1,-1,4 2,0,7");
        faults("a\n\"b\"c\nbc", 2, "1,0,1 2,0,7");
        faults("1|2|3\n1|4\n5|6", 2, "0,-1,5 1,0,7");
        faults("7\n8\n7", 2, "2,0,7");
        Tallow headed = Texts.data("1|a\n1|b\n2|c");
        headed.setRule(0, 2);
        check.same("without heading", Shown.faults(headed), "1,0,7");
        headed.tell(2, 1);
        check.same("the heading is no data", Shown.faults(headed), "");
        StringBuilder rows = new StringBuilder("a\n");
        for (int row = 10; row < 68; row++) {
            rows.append(row).append("c\n");
        }
        faults(rows + "a", 2, "59,0,7");
        faults(rows + "b", 2, "");
    }

    private static void rules() {
        check.sentence("Terms 4", "RULES: one for each of 20 COLUMNS, there or not, 0 at first.");
        Tallow importer = new Tallow();
        for (int column = 0; column < 20; column++) {
            check.same("at first, rule of " + column, importer.setRule(column, column % 4), 0);
        }
        for (int column = 0; column < 20; column++) {
            check.same("rule of " + column, importer.setRule(column, column == 19 ? 1 : 0), column % 4);
        }
        check.refused("setRule(-1, 0)", Tallow::new, NO_SUCH, other -> other.setRule(-1, 0));
        check.refused("setRule(20, 0)", Tallow::new, NO_SUCH, other -> other.setRule(20, 0));
        importer.tell(0, Texts.BAR);
        Check.write(importer, Texts.row(19, ""));
        check.same("the column is not there yet", Shown.faults(importer), "");
        Check.write(importer, "|");
        check.same("the column is there", Shown.faults(importer), "0,19,6");
    }

    private static void kept() {
        check.sentence("Terms 4", "A ROW of DATA is KEPT, if it has no FAULTS, and no KEPT one ahead of it has the same "
            + "SIGNS in all CELLS.");
        kept("", "");
        kept("1|2", "0");
        kept("1|2\n3|4\n5", "0 1");
        kept("1|2\n3|4\n5|6|7", "0 1");
        kept("1|2\n3|\"4\"5", "0");
        kept("1|2\n1|2", "0");
        kept("1|2\n1|3", "0 1");
        kept("1|2\n3|2", "0 1");
        kept("1|2\n2|1", "0 1");
        kept("1|2\n1|2\n1|2\n3|4\n1|2", "0 3");
        kept("1|2\n3|4\n1|2", "0 1");
        kept("1|2\n\"1\"| 2 ", "0");
        kept("1|2\n01|2", "0 1");
        kept("|\n|", "0");
        kept("|\n|a", "0 1");
        kept("ab|c\na|bc", "0 1");
        kept("\"a\"b\nab\nab", "1");
        kept("1|2\n1|2|3\n1|2", "0");
        String nineteen = Texts.row(19, "a");
        kept(nineteen + "|b\n" + nineteen + "|c", "0 1");
        kept(nineteen + "|b|c\n" + nineteen + "|b|d", "0");
        Tallow headed = Texts.data("a|b\na|b\na|b");
        headed.tell(2, 1);
        check.same("the heading is not kept", Shown.kept(headed), "1");
        StringBuilder rows = new StringBuilder("a\n");
        for (int row = 10; row < 68; row++) {
            rows.append(row).append("c\n");
        }
        check.same("60 rows, all others", Texts.data(rows + "b").many(5), 60);
        check.same("60 rows, the last as the first", Texts.data(rows + "a").many(5), 59);
    }

    /** An importer to which something was told, with rows, faults and kept rows: 3 rows, 2 columns, 2 faults. */
    private static Tallow used() {
        Tallow importer = Check.of("1|2\n3|\"4\"5\n6|7|8");
        importer.tell(0, Texts.BAR);
        importer.tell(1, 1);
        importer.tell(2, 0);
        importer.setShare(40);
        importer.setRule(1, 3);
        return importer;
    }

    private static void refused(String call, Class<? extends RuntimeException> due, Consumer<Tallow> made) {
        check.refused(call, FaultBoundsTest::used, due, made);
    }

    private static void throwsChangeNothing() {
        check.sentence("Terms", "A method that throws an exception changes nothing.");
        check.same("an importer to which nothing is refused", Shown.all(used()), Shown.all(used()));
        refused("sign", BAD, importer -> importer.sign(46));
        refused("digits", BAD, importer -> importer.digits(-1));
        refused("letters", BAD, importer -> importer.letters(0, 13));
        refused("three", BAD, importer -> importer.three(1, 2, -3, 4));
        Supplier<Tallow> nearlyFull = () -> Texts.withSigns(499);
        check.refused("digits without room", nearlyFull, FULL, importer -> importer.digits(10));
        check.refused("letters without room", nearlyFull, FULL, importer -> importer.letters(0, 2));
        check.refused("three without room", nearlyFull, FULL, importer -> importer.three(1, 2, 3, 4));
        check.refused("sign without room", () -> Texts.withSigns(500), FULL, importer -> importer.sign(4));
        refused("tell", BAD, importer -> importer.tell(2, 2));
        refused("setShare", BAD, importer -> importer.setShare(101));
        refused("setRule of no column", NO_SUCH, importer -> importer.setRule(20, 2));
        refused("setRule of no rule", BAD, importer -> importer.setRule(0, 4));
        refused("used", BAD, importer -> importer.used(3));
        refused("score", BAD, importer -> importer.score(4));
        refused("many", BAD, importer -> importer.many(7));
        refused("width", NO_SUCH, importer -> importer.width(3));
        refused("cell", NO_SUCH, importer -> importer.cell(0, 2, 0));
        refused("cell asked wrongly", BAD, importer -> importer.cell(0, 1, 5));
        refused("signAt", NO_SUCH, importer -> importer.signAt(0, 2, 0));
        refused("column", NO_SUCH, importer -> importer.column(2, 0));
        refused("column asked wrongly", BAD, importer -> importer.column(1, 5));
        refused("extreme", NO_SUCH, importer -> importer.extreme(2, 0));
        refused("extreme asked wrongly", BAD, importer -> importer.extreme(1, 2));
        refused("sum", NO_SUCH, importer -> importer.sum(2));
        refused("mean", NO_SUCH, importer -> importer.mean(2));
        refused("fault", NO_SUCH, importer -> importer.fault(2, 0));
        refused("fault asked wrongly", BAD, importer -> importer.fault(1, 3));
        refused("kept", NO_SUCH, importer -> importer.kept(1));
        refused("value", NO_SUCH, importer -> importer.value(1, 0));
        refused("find", NO_SUCH, importer -> importer.find(2, 2));
        refused("keptWith", BAD, importer -> importer.keptWith(4));
        refused("kindWith", NO_SUCH, importer -> importer.kindWith(2, 50));
        refused("kindWith no share", BAD, importer -> importer.kindWith(1, 101));
    }

    private static void firstExceptionNamed() {
        check.sentence("Terms", "If several exceptions apply, the one that is named first is thrown.");
        Supplier<Tallow> full = () -> Texts.withSigns(500);
        check.refused("sign(0) without room", full, FULL, importer -> importer.sign(0));
        check.refused("sign(46) without room", full, BAD, importer -> importer.sign(46));
        check.refused("digits(0) without room", full, FULL, importer -> importer.digits(0));
        check.refused("digits(-1) without room", full, BAD, importer -> importer.digits(-1));
        check.refused("letters(0, 1) without room", full, FULL, importer -> importer.letters(0, 1));
        check.refused("letters(26, 1) without room", full, BAD, importer -> importer.letters(26, 1));
        check.refused("letters(0, 13) without room", full, BAD, importer -> importer.letters(0, 13));
        check.refused("three(0, 0, 0, 0) without room", full, FULL, importer -> importer.three(0, 0, 0, 0));
        check.refused("three(0, 0, -1, 0) without room", full, BAD, importer -> importer.three(0, 0, -1, 0));
        check.refused("three(0, 0, 0, 46) without room", full, BAD, importer -> importer.three(0, 0, 0, 46));
        refused("setRule(19, 4)", BAD, importer -> importer.setRule(19, 4));
        refused("setRule(20, 4)", NO_SUCH, importer -> importer.setRule(20, 4));
        refused("setRule(-1, -1)", NO_SUCH, importer -> importer.setRule(-1, -1));
        refused("cell(2, 2, 5)", BAD, importer -> importer.cell(2, 2, 5));
        refused("cell(2, 3, 5)", NO_SUCH, importer -> importer.cell(2, 3, 5));
        refused("cell(3, 0, -1)", NO_SUCH, importer -> importer.cell(3, 0, -1));
        refused("column(1, -1)", BAD, importer -> importer.column(1, -1));
        refused("column(2, -1)", NO_SUCH, importer -> importer.column(2, -1));
        refused("extreme(1, -1)", BAD, importer -> importer.extreme(1, -1));
        refused("extreme(2, -1)", NO_SUCH, importer -> importer.extreme(2, -1));
        refused("fault(1, -1)", BAD, importer -> importer.fault(1, -1));
        refused("fault(2, -1)", NO_SUCH, importer -> importer.fault(2, -1));
        refused("kindWith(1, 0)", BAD, importer -> importer.kindWith(1, 0));
        refused("kindWith(2, 0)", NO_SUCH, importer -> importer.kindWith(2, 0));
    }
}
