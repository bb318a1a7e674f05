/** Promises 7 to 9: tell, setShare and setRule. */
public final class TellingTest {
    private static final Class<IllegalArgumentException> BAD_ARGUMENT = IllegalArgumentException.class;
    private static final Class<IndexOutOfBoundsException> NO_SUCH = IndexOutOfBoundsException.class;
    private static final Check check = new Check("TellingTest");

    public static void main(String[] args) {
        tell();
        tellAndGuessAgain();
        setShare();
        setRule();
        check.end();
    }

    private static void tell() {
        Tallow importer = Check.of("a,b\n1,2\n");
        check.same("tell(0, 3)", importer.tell(0, 3), -1);
        check.same("tell(0, 0)", importer.tell(0, 0), 3);
        check.same("tell(0, -1)", importer.tell(0, -1), 0);
        check.same("tell(0, 2)", importer.tell(0, 2), -1);
        check.same("tell(1, 1)", importer.tell(1, 1), -1);
        check.same("tell(1, 0)", importer.tell(1, 0), 1);
        check.same("tell(1, -1)", importer.tell(1, -1), 0);
        check.same("tell(2, 0)", importer.tell(2, 0), -1);
        check.same("tell(2, 1)", importer.tell(2, 1), 0);
        check.same("tell(2, -1)", importer.tell(2, -1), 1);
        check.same("the parter is still told", importer.tell(0, -1), 2);
        int[][] wrong = {{-1, 0}, {3, 0}, {0, -2}, {0, 4}, {1, -2}, {1, 2}, {2, -2}, {2, 2}, {3, 9},
            {Integer.MIN_VALUE, 0}, {Integer.MAX_VALUE, 0}, {0, Integer.MIN_VALUE}, {0, Integer.MAX_VALUE}};
        for (int[] pair : wrong) {
            check.fails("tell(" + pair[0] + ", " + pair[1] + ")", importer, BAD_ARGUMENT,
                () -> importer.tell(pair[0], pair[1]));
        }
    }

    private static void tellAndGuessAgain() {
        Tallow importer = Check.of("a,b\n1,x\n");
        check.same("the parter guessed", importer.used(0), 0);
        check.same("the heading guessed", importer.used(2), 1);
        importer.tell(0, 1);
        check.same("the parter told", importer.used(0), 1);
        check.same("columns with the parter told", importer.many(2), 1);
        check.same("the heading guessed with the parter told", importer.used(2), 0);
        importer.tell(2, 1);
        check.same("data with the heading told", importer.many(3), 1);
        importer.tell(1, 1);
        check.same("the mark told", importer.used(1), 1);
        importer.tell(0, -1);
        importer.tell(1, -1);
        importer.tell(2, -1);
        check.same("the parter guessed again", importer.used(0), 0);
        check.same("the mark guessed again", importer.used(1), 0);
        check.same("columns guessed again", importer.many(2), 2);
    }

    private static void setShare() {
        Tallow importer = Check.of("1\n2\n3\n4\na\n");
        check.same("four fifths are enough at first", importer.column(0, 0), 1);
        check.same("setShare(81)", importer.setShare(81), 80);
        check.same("four fifths are not 81 percents", importer.column(0, 0), 5);
        check.same("setShare(1)", importer.setShare(1), 81);
        check.same("setShare(100)", importer.setShare(100), 1);
        for (int share : new int[] {0, 101, -1, Integer.MIN_VALUE, Integer.MAX_VALUE}) {
            check.fails("setShare(" + share + ")", importer, BAD_ARGUMENT, () -> importer.setShare(share));
        }
        check.same("the share stays behind wrong ones", importer.setShare(50), 100);
    }

    private static void setRule() {
        Tallow importer = Check.of("1,\n");
        for (int column = 0; column < 20; column++) {
            for (int rule = 1; rule <= 3; rule++) {
                check.same("setRule(" + column + ", " + rule + ")", importer.setRule(column, rule), rule - 1);
            }
            check.same("setRule(" + column + ", 0)", importer.setRule(column, 0), 3);
        }
        for (int column : new int[] {-1, 20, Integer.MIN_VALUE, Integer.MAX_VALUE}) {
            check.fails("setRule(" + column + ", 0)", importer, NO_SUCH, () -> importer.setRule(column, 0));
            check.fails("setRule(" + column + ", 4)", importer, NO_SUCH, () -> importer.setRule(column, 4));
        }
        for (int rule : new int[] {-1, 4, Integer.MIN_VALUE, Integer.MAX_VALUE}) {
            check.fails("setRule(19, " + rule + ")", importer, BAD_ARGUMENT, () -> importer.setRule(19, rule));
        }
        check.same("no faults without rules", importer.many(4), 0);
        importer.setRule(1, 1);
        check.same("a fault with the rule", importer.many(4), 1);
        importer.setRule(1, 0);
        check.same("no fault behind the rule", importer.many(4), 0);
    }
}
