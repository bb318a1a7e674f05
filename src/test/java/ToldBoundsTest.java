import java.util.function.Consumer;

/** The boundaries that the document names in promises 7 to 9: tell, setShare and setRule. */
public final class ToldBoundsTest {
    private static final Class<IllegalArgumentException> BAD = IllegalArgumentException.class;
    private static final Class<IndexOutOfBoundsException> NO_SUCH = IndexOutOfBoundsException.class;
    private static final int LEAST = Integer.MIN_VALUE;
    private static final int GREATEST = Integer.MAX_VALUE;
    private static final Check check = new Check("ToldBoundsTest");

    public static void main(String[] args) {
        whatIsTold();
        fromNowOn();
        tellReturns();
        tellRange();
        shareFromNowOn();
        shareReturns();
        shareRange();
        anyColumn();
        ruleFromNowOn();
        ruleReturns();
        ruleOfNoColumn();
        ruleRange();
        check.end();
    }

    private static void refused(String call, Class<? extends RuntimeException> due, Consumer<Tallow> made) {
        check.refused(call, () -> Check.of("a;b\n1,5;2\n"), due, made);
    }

    private static void whatIsTold() {
        check.sentence("Promise 7", "`what`: 0 PARTER, 1 MARK, 2 HEADING (0 none, 1 the first ROW is one)");
        Tallow importer = Check.of("a;1,5|b");
        for (int parter = 0; parter <= 3; parter++) {
            importer.tell(0, parter);
            check.same("width with PARTER " + parter, importer.width(0), parter == 2 ? 1 : 2);
            check.same("used(0) with PARTER " + parter, importer.used(0), parter);
        }
        importer.tell(0, 3);
        importer.tell(0, 1);
        check.same("used(1) when the PARTER is told", importer.used(1), 0);
        Tallow mark = Texts.bars("1,5|1.5");
        mark.tell(1, 1);
        check.same("1,5 with MARK 1", mark.cell(0, 0, 0), 2);
        check.same("1.5 with MARK 1", mark.cell(0, 1, 0), 5);
        mark.tell(1, 0);
        check.same("1,5 with MARK 0", mark.cell(0, 0, 0), 5);
        check.same("1.5 with MARK 0", mark.cell(0, 1, 0), 2);
        Tallow heading = Texts.bars("1\n2");
        heading.tell(2, 1);
        check.same("data with HEADING 1", heading.many(3), 1);
        heading.tell(2, 0);
        check.same("data with HEADING 0", heading.many(3), 2);
    }

    private static void fromNowOn() {
        check.sentence("Promise 7", "`n`: what it is from now on; -1 to guess it");
        Tallow importer = Check.of("a;b\n1,5;2");
        for (int what = 0; what <= 2; what++) {
            check.same("guessed " + what, importer.used(what), 1);
            importer.tell(what, 0);
            check.same("told " + what, importer.used(what), 0);
            importer.tell(what, -1);
            check.same("guessed again " + what, importer.used(what), 1);
        }
        importer.tell(0, 3);
        importer.clear();
        Check.write(importer, "a,b");
        check.same("told ahead of the text", importer.used(0), 3);
        importer.tell(0, -1);
        check.same("guessed with the text", importer.used(0), 0);
    }

    private static void tellReturns() {
        check.sentence("Promise 7", "Returns what was told; -1 if it was guessed.");
        int[] most = {3, 1, 1};
        Tallow importer = Check.of("a|b\n1|2");
        for (int what = 0; what <= 2; what++) {
            check.same("guessed at first", importer.tell(what, -1), -1);
            check.same("guessed once more", importer.tell(what, most[what]), -1);
            check.same("the most told", importer.tell(what, 0), most[what]);
            check.same("0 told", importer.tell(what, 0), 0);
            check.same("0 told again", importer.tell(what, -1), 0);
            check.same("guessed then", importer.tell(what, most[what]), -1);
        }
        check.same("each by itself", importer.tell(0, 1), 3);
    }

    private static void tellRange() {
        check.sentence("Promise 7", "Throws `IllegalArgumentException` if what is not 0 to 2, or n is not -1 to 3 with "
            + "PARTER, or -1 to 1 with the others");
        int[] most = {3, 1, 1};
        for (int what = 0; what <= 2; what++) {
            Tallow importer = new Tallow();
            for (int n = -1; n <= most[what]; n++) {
                importer.tell(what, n);
                check.same("tell(" + what + ", " + n + ") holds", importer.tell(what, n), n);
            }
            int each = what;
            for (int n : new int[] {-2, most[what] + 1, LEAST, GREATEST}) {
                refused("tell(" + what + ", " + n + ")", BAD, other -> other.tell(each, n));
            }
        }
        for (int what : new int[] {-1, 3, LEAST, GREATEST}) {
            refused("tell(" + what + ", -1)", BAD, other -> other.tell(what, -1));
            refused("tell(" + what + ", 0)", BAD, other -> other.tell(what, 0));
        }
    }

    private static void shareFromNowOn() {
        check.sentence("Promise 8", "`share`: SHARE from now on");
        Tallow importer = Texts.column("1 2 3 4 a");
        check.same("kind with 80 at first", importer.column(0, 0), 1);
        importer.setShare(81);
        check.same("kind with 81", importer.column(0, 0), 5);
        importer.setShare(1);
        check.same("kind with 1", importer.column(0, 0), 1);
        importer.setShare(100);
        check.same("kind with 100", importer.column(0, 0), 5);
        importer.setShare(80);
        check.same("kind with 80", importer.column(0, 0), 1);
    }

    private static void shareReturns() {
        check.sentence("Promise 8", "Returns the one before.");
        Tallow importer = new Tallow();
        check.same("setShare(1)", importer.setShare(1), 80);
        check.same("setShare(100)", importer.setShare(100), 1);
        check.same("setShare(100) again", importer.setShare(100), 100);
        check.same("setShare(50)", importer.setShare(50), 100);
    }

    private static void shareRange() {
        check.sentence("Promise 8", "Throws `IllegalArgumentException` if share is not 1 to 100");
        check.same("setShare(1)", new Tallow().setShare(1), 80);
        check.same("setShare(100)", new Tallow().setShare(100), 80);
        for (int share : new int[] {0, 101, -1, LEAST, GREATEST}) {
            refused("setShare(" + share + ")", BAD, importer -> importer.setShare(share));
        }
    }

    private static void anyColumn() {
        check.sentence("Promise 9", "`column`: a COLUMN, there or not");
        Tallow importer = Texts.data("|");
        importer.setRule(1, 1);
        check.same("there", Shown.faults(importer), "0,1,6");
        importer.setRule(2, 1);
        importer.setRule(19, 1);
        check.same("not there", Shown.faults(importer), "0,1,6");
        Check.write(importer, "|");
        check.same("there now", Shown.faults(importer), "0,1,6 0,2,6");
        Check.write(importer, "|".repeat(17));
        check.same("all there", Shown.faults(importer), "0,1,6 0,2,6 0,19,6");
    }

    private static void ruleFromNowOn() {
        check.sentence("Promise 9", "`rule`: its RULE from now on");
        Tallow importer = Texts.column("a \"\" a \"\"");
        String[] due = {"", "1,0,6 3,0,6", "2,0,7", "1,0,6 2,0,7 3,0,6"};
        for (int rule : new int[] {0, 1, 2, 3, 2, 1, 0, 3, 0}) {
            importer.setRule(0, rule);
            check.same("faults with rule " + rule, Shown.faults(importer), due[rule]);
        }
    }

    private static void ruleReturns() {
        check.sentence("Promise 9", "Returns the one before.");
        Tallow importer = new Tallow();
        for (int column : new int[] {0, 1, 18, 19}) {
            check.same("at first", importer.setRule(column, 3), 0);
            check.same("3 before", importer.setRule(column, 3), 3);
            check.same("3 before again", importer.setRule(column, 1), 3);
            check.same("1 before", importer.setRule(column, 2), 1);
            check.same("2 before", importer.setRule(column, 0), 2);
            check.same("0 before", importer.setRule(column, 1), 0);
        }
    }

    private static void ruleOfNoColumn() {
        check.sentence("Promise 9", "Throws `IndexOutOfBoundsException` if column is not 0 to 19");
        check.same("setRule(0, 3)", new Tallow().setRule(0, 3), 0);
        check.same("setRule(19, 3)", new Tallow().setRule(19, 3), 0);
        for (int column : new int[] {-1, 20, LEAST, GREATEST}) {
            refused("setRule(" + column + ", 3)", NO_SUCH, importer -> importer.setRule(column, 3));
            refused("setRule(" + column + ", 4)", NO_SUCH, importer -> importer.setRule(column, 4));
        }
    }

    private static void ruleRange() {
        check.sentence("Promise 9", "Throws `IllegalArgumentException` if rule is not 0 to 3");
        for (int column : new int[] {0, 19}) {
            check.same("rule 0 of " + column, new Tallow().setRule(column, 0), 0);
            check.same("rule 3 of " + column, new Tallow().setRule(column, 3), 0);
            for (int rule : new int[] {-1, 4, LEAST, GREATEST}) {
                refused("setRule(" + column + ", " + rule + ")", BAD, importer -> importer.setRule(column, rule));
            }
        }
    }
}
