import java.math.BigInteger;
import java.util.Collections;
import java.util.List;
import java.util.function.Consumer;
import java.util.function.Supplier;

/** The boundaries that the document names in promises 24 to 26: what would be, and the digest. */
public final class WouldBeBoundsTest {
    private static final Class<IllegalArgumentException> BAD = IllegalArgumentException.class;
    private static final Class<IndexOutOfBoundsException> NO_SUCH = IndexOutOfBoundsException.class;
    private static final int LEAST = Integer.MIN_VALUE;
    private static final int GREATEST = Integer.MAX_VALUE;
    private static final Check check = new Check("WouldBeBoundsTest");

    public static void main(String[] args) {
        nothingIsChanged();
        keptWithParter();
        keptWith();
        keptWithRange();
        kindOfColumn();
        kindWithShare();
        kindInData();
        kindOfNoColumn();
        kindWithRange();
        digest();
        digestWraps();
        check.end();
    }

    /** Four rows of which the first is a heading if SHARE is 75 at most: 1, 2.5 and a word are below it. */
    private static Tallow shared() {
        Tallow importer = Texts.bars("a|bb\n1|y\n2.5|y\ncc|n");
        importer.setShare(60);
        return importer;
    }

    private static void refused(String call, Supplier<Tallow> maker, Class<? extends RuntimeException> due,
        Consumer<Tallow> made) {
        check.refused(call, maker, due, made);
    }

    private static void unchanged(String call, Supplier<Tallow> maker, Consumer<Tallow> made) {
        Tallow importer = maker.get();
        made.accept(importer);
        check.same("the importer behind " + call, Shown.all(importer), Shown.all(maker.get()));
    }

    private static void nothingIsChanged() {
        check.sentence("Terms", "what would be (nothing is changed)");
        for (int parter = 0; parter <= 3; parter++) {
            int each = parter;
            unchanged("keptWith(" + parter + ")", WouldBeBoundsTest::shared, importer -> importer.keptWith(each));
            unchanged("keptWith(" + parter + ") of nothing", Tallow::new, importer -> importer.keptWith(each));
            unchanged("keptWith(" + parter + "), guessed", () -> Check.of("a;b\n1,5;2"),
                importer -> importer.keptWith(each));
        }
        for (int share : new int[] {1, 60, 100}) {
            unchanged("kindWith(0, " + share + ")", WouldBeBoundsTest::shared, importer -> importer.kindWith(0, share));
        }
        unchanged("digest", WouldBeBoundsTest::shared, Tallow::digest);
        unchanged("digest of nothing", Tallow::new, Tallow::digest);
        check.same("digest twice", digestTwice(), shared().digest());
    }

    private static long digestTwice() {
        Tallow importer = shared();
        importer.digest();
        return importer.digest();
    }

    private static void keptWithParter() {
        check.sentence("Promise 24", "`parter`: one of 0 to 3");
        String text = "a,b;c\td|\"z\"z\ne,f;g\th|\"y\"x\ni;j\tk\nl\tm\nl\tm";
        int[] due = {2, 3, 4, 2};
        for (int parter = 0; parter <= 3; parter++) {
            check.same("keptWith(" + parter + ")", Check.of(text).keptWith(parter), due[parter]);
            Tallow told = Check.of(text);
            told.tell(0, parter);
            check.same("kept with " + parter + " told", told.many(5), due[parter]);
        }
    }

    private static void keptWith() {
        check.sentence("Promise 24", "Returns how many ROWS would be KEPT, if that was told (all else as it is told, or "
            + "guessed anew).");
        check.same("of nothing", new Tallow().keptWith(0), 0);
        check.same("of one row", Check.of("a").keptWith(3), 1);
        check.same("of one row that is not right", Check.of("\"a\"b").keptWith(3), 0);
        Tallow importer = Check.of("a;b\n1,5;2\n1,5;3\n");
        check.same("HEADING guessed anew: one", importer.keptWith(1), 2);
        check.same("HEADING guessed anew: none", importer.keptWith(2), 3);
        importer.tell(2, 1);
        check.same("HEADING told", importer.keptWith(2), 2);
        importer.tell(2, 0);
        check.same("no HEADING told", importer.keptWith(1), 3);
        Tallow mark = Check.of("1,5;x\n2,5;x\n1.5;y\n");
        mark.setShare(60);
        check.same("MARK guessed anew", mark.keptWith(1), 2);
        mark.tell(1, 0);
        check.same("MARK told", mark.keptWith(1), 3);
        mark.tell(0, 3);
        check.same("with a PARTER told", mark.keptWith(1), 3);
        mark.tell(1, -1);
        check.same("MARK as it is now", mark.used(1), 0);
        check.same("MARK guessed anew, other than now", mark.keptWith(1), 2);
        mark.tell(1, 0);
        mark.setRule(1, 2);
        check.same("RULES hold", mark.keptWith(1), 2);
        mark.setRule(1, 0);
        mark.setRule(2, 3);
        check.same("RULES of other columns", mark.keptWith(1), 3);
    }

    private static void keptWithRange() {
        check.sentence("Promise 24", "Throws `IllegalArgumentException` if parter is not 0 to 3");
        check.same("keptWith(0)", shared().keptWith(0), 4);
        check.same("keptWith(3)", shared().keptWith(3), 2);
        for (int parter : new int[] {-1, 4, LEAST, GREATEST}) {
            refused("keptWith(" + parter + ")", WouldBeBoundsTest::shared, BAD,
                importer -> importer.keptWith(parter));
        }
    }

    private static void kindOfColumn() {
        check.sentence("Promise 25", "`column`: a COLUMN, as it is read now");
        check.same("the first", shared().kindWith(0, 60), 2);
        check.same("the last", shared().kindWith(1, 60), 4);
        Tallow importer = shared();
        importer.tell(0, 0);
        check.same("the first with COMMA", importer.kindWith(0, 60), 5);
        check.same("there is one with COMMA", importer.many(2), 1);
        check.same("the 20th", Texts.data(Texts.row(19, "a") + "|7").kindWith(19, 100), 1);
    }

    private static void kind(String cells, int share, int due) {
        check.same("kind of " + cells + " with " + share, Texts.column(cells).kindWith(0, share), due);
    }

    private static void kindWithShare() {
        check.sentence("Promise 25", "`share`: a SHARE");
        kind("1 2 3 4 a", 80, 1);
        kind("1 2 3 4 a", 81, 5);
        kind("y" + " a".repeat(59), 1, 4);
        kind("y" + " a".repeat(59), 2, 5);
        kind("1 2 3 4 5", 100, 1);
        kind("1 2 3 4 a", 100, 5);
        kind("a b c", 1, 5);
        kind("\"\" \"\"", 1, 0);
        kind("\"\" \"\"", 100, 0);
        kind("1 2 a", 66, 1);
        kind("1 2 a", 67, 5);
    }

    private static void kindInData() {
        check.sentence("Promise 25", "Returns the KIND that its CELLS in DATA, as that is now, would have together with "
            + "it.");
        Tallow importer = shared();
        check.same("there is a heading now", importer.used(2), 1);
        check.same("two of three with 66", importer.kindWith(0, 66), 2);
        check.same("two of three with 67", importer.kindWith(0, 67), 5);
        check.same("the heading stays with 100", importer.kindWith(1, 100), 4);
        importer.tell(2, 0);
        check.same("two of four with 50", importer.kindWith(0, 50), 2);
        check.same("two of four with 51", importer.kindWith(0, 51), 5);
        Tallow none = Texts.bars("a\n1\n2\nb");
        check.same("there is no heading now", none.used(2), 0);
        check.same("two of four with 50, where 60 would make one", none.kindWith(0, 50), 1);
        check.same("two of four with 60", none.kindWith(0, 60), 5);
        Tallow alone = Texts.data("5");
        check.same("of one row", alone.kindWith(0, 100), 1);
        alone.tell(2, 1);
        check.same("without data", alone.kindWith(0, 1), 0);
        check.same("with wrong rows", Texts.data("1|2\n3|4\n5\ny|6|7").kindWith(0, 75), 1);
        check.same("with wrong rows, all of them", Texts.data("1|2\n3|4\n5\ny|6|7").kindWith(0, 76), 5);
    }

    private static void kindOfNoColumn() {
        check.sentence("Promise 25", "Throws `IndexOutOfBoundsException` if there is no such COLUMN");
        check.same("column 0 of 2", shared().kindWith(0, 100), 5);
        check.same("column 1 of 2", shared().kindWith(1, 100), 4);
        for (int column : new int[] {-1, 2, 19, 20, LEAST, GREATEST}) {
            refused("kindWith(" + column + ", 50)", WouldBeBoundsTest::shared, NO_SUCH,
                importer -> importer.kindWith(column, 50));
        }
        refused("column 20 of 21 cells", () -> Texts.data("|".repeat(20)), NO_SUCH,
            importer -> importer.kindWith(20, 50));
        refused("column 0 of nothing", Tallow::new, NO_SUCH, importer -> importer.kindWith(0, 50));
    }

    private static void kindWithRange() {
        check.sentence("Promise 25", "Throws `IllegalArgumentException` if share is not 1 to 100");
        check.same("kindWith(0, 1)", shared().kindWith(0, 1), 2);
        check.same("kindWith(0, 100)", shared().kindWith(0, 100), 5);
        for (int share : new int[] {0, 101, -1, LEAST, GREATEST}) {
            refused("kindWith(1, " + share + ")", WouldBeBoundsTest::shared, BAD,
                importer -> importer.kindWith(1, share));
        }
    }

    /** The digest of these numbers, as a whole number without bounds. */
    private static BigInteger unbound(List<Long> numbers) {
        BigInteger d = BigInteger.valueOf(58075);
        for (long x : numbers) {
            d = d.multiply(BigInteger.valueOf(31)).add(BigInteger.valueOf(x));
        }
        return d;
    }

    private static void digest(String what, Supplier<Tallow> maker) {
        check.same("digest of " + what, maker.get().digest(), unbound(Shown.numbersOfDigest(maker)).longValue());
    }

    private static void digest() {
        check.sentence("Promise 26", "Computes a checksum. A number d starts with 58075; for each of the following "
            + "numbers x, d becomes d * 31 + x, which wraps around as a 64-bit integer: used() of 0 to 2, score() of "
            + "0 to 3, many() of 0 to 6; for each ROW width(), and of each CELL that is in it cell() of 0 to 4; for "
            + "each COLUMN column() of 0 to 4, extreme() of 0 and 1, sum(); for each FAULT fault() of 0 to 2; each "
            + "kept(); keptWith() of 0 to 3. Returns d.");
        check.same("numbers of nothing", unbound(Shown.numbersOfDigest(Tallow::new)).toString(),
            unbound(Collections.nCopies(18, 0L)).toString());
        digest("nothing", Tallow::new);
        digest("a row", () -> Check.of("a"));
        digest("a row that is no row", () -> Check.of(" \n"));
        digest("shared", WouldBeBoundsTest::shared);
        digest("a row of 20 cells", () -> Check.of("1|".repeat(19) + "\"2\""));
        digest("a row of 21 cells", () -> Check.of("1|".repeat(20) + "\"2\""));
        digest("a heading of 21 cells and a row", () -> Texts.bars(Texts.row(21, "a") + "\n" + Texts.row(21, "y")));
        digest("60 rows", () -> Check.of("a\n".repeat(60)));
        digest("61 rows", () -> Check.of("a\n".repeat(60) + "b|c"));
        digest("all faults", () -> Check.of("1;\"2\"\n3\n4;5;6\n\"7\"8;9\n7;\"x"));
        digest("great values", () -> Texts.column("999999.999 -999999.999 999998"));
        digest("values below 0", () -> Check.of("-1,-2.5\n-3,-4"));
        digest("commas", () -> Check.of("x;yy\n-1,5;n\n2,25;y\n;"));
        digest("500 signs", () -> Texts.withSigns(500));
        digest("a text behind clear", () -> {
            Tallow importer = Check.of("a|b\n1|2");
            importer.clear();
            Check.write(importer, "c;d");
            return importer;
        });
    }

    private static void digestWraps() {
        check.sentence("Promise 26", "Computes a checksum. A number d starts with 58075; for each of the following "
            + "numbers x, d becomes d * 31 + x, which wraps around as a 64-bit integer");
        BigInteger nothing = unbound(Collections.nCopies(18, 0L));
        BigInteger most = BigInteger.valueOf(Long.MAX_VALUE);
        check.same("9 numbers do not wrap", unbound(Collections.nCopies(9, 0L)).compareTo(most), -1);
        check.same("10 numbers do", unbound(Collections.nCopies(10, 0L)).compareTo(most), 1);
        check.same("the digest of nothing", new Tallow().digest(), nothing.longValue());
        int below = 0;
        int above = 0;
        for (int signs = 1; signs <= 20; signs++) {
            int each = signs;
            Supplier<Tallow> maker = () -> Texts.withSigns(each);
            digest(signs + " signs", maker);
            below += maker.get().digest() < 0 ? 1 : 0;
            above += maker.get().digest() > 0 ? 1 : 0;
        }
        check.same("some of them are below 0, some above", below > 0 && above > 0 ? 1 : 0, 1);
    }
}
