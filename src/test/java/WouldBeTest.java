import java.util.function.Supplier;

/** Promises 24 to 26: keptWith, kindWith and digest. */
public final class WouldBeTest {
    private static final Class<IllegalArgumentException> BAD_ARGUMENT = IllegalArgumentException.class;
    private static final Class<IndexOutOfBoundsException> NO_SUCH = IndexOutOfBoundsException.class;
    private static final Check check = new Check("WouldBeTest");

    public static void main(String[] args) {
        keptWith();
        kindWith();
        digest();
        check.end();
    }

    private static void keptWith() {
        Tallow importer = Check.of("a;b\n1,5;2\n1,5;3\n1,6;4\n");
        check.same("the parter now", importer.used(0), 1);
        check.same("kept with commas", importer.keptWith(0), 3);
        check.same("kept with semicolons", importer.keptWith(1), 3);
        check.same("kept with tabs", importer.keptWith(2), 4);
        check.same("kept now", importer.many(5), 3);
        check.same("nothing is changed", importer.used(0), 1);
        importer.tell(2, 0);
        check.same("the heading told holds", importer.keptWith(1), 4);
        importer.tell(2, -1);
        importer.setShare(10);
        importer.setRule(0, 2);
        check.same("the rules hold", importer.keptWith(1), 2);
        importer.tell(0, 3);
        check.same("whatever parter is told", importer.keptWith(1), 2);
        check.same("and it stays", importer.used(0), 3);
        Tallow marks = Check.of("1,5;x\n2,5;x\n1.5;y\n");
        marks.setShare(60);
        marks.tell(0, 0);
        check.same("with commas there is no mark but the point", marks.used(1), 0);
        check.same("the mark is guessed anew", marks.keptWith(1), 2);
        for (int parter : new int[] {-1, 4, Integer.MIN_VALUE, Integer.MAX_VALUE}) {
            check.fails("keptWith(" + parter + ")", importer, BAD_ARGUMENT, () -> importer.keptWith(parter));
        }
    }

    private static void kindWith() {
        Tallow importer = Check.of("aa|bb\n1|2.5\n2|x\n3|4\nc|y\n5|yy\n");
        check.same("column 0 now", importer.column(0, 0), 1);
        check.same("column 0 with 80", importer.kindWith(0, 80), 1);
        check.same("column 0 with 81", importer.kindWith(0, 81), 5);
        check.same("column 1 now", importer.column(1, 0), 5);
        check.same("column 1 with 40", importer.kindWith(1, 40), 2);
        check.same("column 1 with 41", importer.kindWith(1, 41), 5);
        check.same("column 1 with 1", importer.kindWith(1, 1), 2);
        check.same("data stay as they are now", importer.used(2), 1);
        check.same("the share stays", importer.setShare(100), 80);
        check.same("without heading now", importer.used(2), 0);
        check.same("the heading is not guessed anew", importer.kindWith(0, 80), 5);
        for (int column : new int[] {-1, 2, Integer.MIN_VALUE, Integer.MAX_VALUE}) {
            check.fails("kindWith(" + column + ", 50)", importer, NO_SUCH, () -> importer.kindWith(column, 50));
            check.fails("kindWith(" + column + ", 0)", importer, NO_SUCH, () -> importer.kindWith(column, 0));
        }
        for (int share : new int[] {0, 101, -1, Integer.MIN_VALUE, Integer.MAX_VALUE}) {
            check.fails("kindWith(0, " + share + ")", importer, BAD_ARGUMENT, () -> importer.kindWith(0, share));
        }
    }

    private static void digest() {
        long due = 58075;
        for (int x = 0; x < 18; x++) {
            due = due * 31;
        }
        check.same("digest without text", new Tallow().digest(), due);
        digest("a table", () -> Check.of("a|b\n1|\"2\"\n3\n"));
        String wide = "y,n,1,2,3.5,a,b,1/1/2000,,,,,,,,,,,,\"x\"z,q\n";
        digest("wide rows", () -> Check.of(wide + wide));
        digest("a text with a parter told", () -> {
            Tallow told = Check.of(wide);
            told.tell(0, 3);
            told.tell(2, 1);
            return told;
        });
    }

    private static void digest(String what, Supplier<Tallow> maker) {
        Tallow importer = maker.get();
        long first = importer.digest();
        check.same("digest of " + what, first, ofAll(maker));
        check.same("digest of " + what + " twice", importer.digest(), first);
    }

    /** The digest, computed from the other calls. */
    private static long ofAll(Supplier<Tallow> maker) {
        long d = 58075;
        for (long x : Shown.numbersOfDigest(maker)) {
            d = d * 31 + x;
        }
        return d;
    }
}
