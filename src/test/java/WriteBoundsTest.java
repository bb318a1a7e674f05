import java.util.function.Consumer;

/** The boundaries that the document names in promises 1 to 6: a new object, and what is written. */
public final class WriteBoundsTest {
    private static final Class<IllegalArgumentException> BAD = IllegalArgumentException.class;
    private static final Class<IllegalStateException> FULL = IllegalStateException.class;
    private static final int LEAST = Integer.MIN_VALUE;
    private static final int GREATEST = Integer.MAX_VALUE;
    private static final Check check = new Check("WriteBoundsTest");

    public static void main(String[] args) {
        newObject();
        signWritten();
        signReturns();
        signRange();
        signRoom();
        digitsWritten();
        digitsReturn();
        digitsRange();
        digitsRoom();
        firstLetter();
        nextLetters();
        lettersReturn();
        lettersRange();
        lettersRoom();
        threeWritten();
        threeReturns();
        threeRange();
        threeRoom();
        clearEmpties();
        clearReturns();
        check.end();
    }

    /** The signs of the first cell behind a call on a new importer; what was read ahead of the call is read anew. */
    private static void written(String call, Consumer<Tallow> made, String due) {
        Tallow importer = new Tallow();
        importer.tell(0, 1);
        check.same("rows ahead of " + call, importer.many(1), 0);
        made.accept(importer);
        check.same("cells behind " + call, Shown.cells(importer), "#1<" + due);
    }

    private static void bad(String call, Consumer<Tallow> made) {
        check.refused(call, () -> Check.of("1|2\n3"), BAD, made);
    }

    private static void full(String call, int signs, Consumer<Tallow> made) {
        check.refused(call + " behind " + signs, () -> Texts.withSigns(signs), FULL, made);
    }

    private static void newObject() {
        check.sentence("Promise 1", "Creates an importer with an empty TEXT, that guesses all.");
        check.same("signs", new Tallow().many(0), 0);
        check.same("the first sign is the first", new Tallow().sign(20), 1);
        for (int what = 0; what <= 2; what++) {
            check.same("told " + what, new Tallow().tell(what, 0), -1);
            Tallow importer = Check.of("a;b\n1,5;2");
            check.same("guessed " + what, importer.used(what), 1);
            importer.tell(what, 0);
            check.same("told, not guessed " + what, importer.used(what), 0);
            check.same("another object guesses " + what, Check.of("a;b\n1,5;2").used(what), 1);
        }
    }

    private static void signWritten() {
        check.sentence("Promise 2", "Writes a SIGN. - `sign`: the SIGN");
        written("sign(0)", importer -> importer.sign(0), ",");
        written("sign(45)", importer -> importer.sign(45), "z");
        for (int sign = 7; sign <= 45; sign++) {
            int each = sign;
            written("sign(" + sign + ")", importer -> importer.sign(each), Check.SIGNS.substring(sign, sign + 1));
        }
    }

    private static void signReturns() {
        check.sentence("Promise 2", "Returns how many there are.");
        Tallow importer = new Tallow();
        check.same("the first", importer.sign(6), 1);
        check.same("the second", importer.sign(5), 2);
        check.same("many(0)", importer.many(0), 2);
        check.same("the 500th", Texts.withSigns(499).sign(4), 500);
    }

    private static void signRange() {
        check.sentence("Promise 2", "Throws `IllegalArgumentException` if sign is not 0 to 45");
        check.same("sign(0)", new Tallow().sign(0), 1);
        check.same("sign(45)", new Tallow().sign(45), 1);
        for (int sign : new int[] {-1, 46, LEAST, GREATEST}) {
            bad("sign(" + sign + ")", importer -> importer.sign(sign));
        }
    }

    private static void signRoom() {
        check.sentence("Promise 2", "Throws `IllegalStateException` if there would be more than 500");
        check.same("sign behind 499", Texts.withSigns(499).sign(20), 500);
        full("sign", 500, importer -> importer.sign(20));
        Tallow cleared = Texts.withSigns(500);
        cleared.clear();
        check.same("sign behind clear", cleared.sign(20), 1);
    }

    private static void digitsWritten() {
        check.sentence("Promise 3", "Writes the DIGITS of a number. - `n`: the number");
        for (int n : new int[] {0, 1, 9, 10, 11, 99, 100, 999, 1000, 9999, 10000, 99999, 100000, 999999, 1000000,
            9999999, 10000000, 99999999, 100000000, 999999999, 1000000000, 1234567890, GREATEST}) {
            written("digits(" + n + ")", importer -> importer.digits(n), Integer.toString(n));
        }
    }

    private static void digitsReturn() {
        check.sentence("Promise 3", "Returns how many there are.");
        Tallow importer = new Tallow();
        check.same("digits(9)", importer.digits(9), 1);
        check.same("digits(10)", importer.digits(10), 3);
        check.same("digits(0)", importer.digits(0), 4);
        check.same("digits(999999999)", importer.digits(999999999), 13);
        check.same("digits(1000000000)", importer.digits(1000000000), 23);
        check.same("many(0)", importer.many(0), 23);
    }

    private static void digitsRange() {
        check.sentence("Promise 3", "Throws `IllegalArgumentException` if n is less than 0");
        check.same("digits(0)", new Tallow().digits(0), 1);
        check.same("digits(MAX)", new Tallow().digits(GREATEST), 10);
        bad("digits(-1)", importer -> importer.digits(-1));
        bad("digits(MIN)", importer -> importer.digits(LEAST));
    }

    private static void digitsRoom() {
        check.sentence("Promise 3", "Throws `IllegalStateException` if there would be more than 500");
        check.same("digits(0) behind 499", Texts.withSigns(499).digits(0), 500);
        full("digits(0)", 500, importer -> importer.digits(0));
        check.same("digits(9) behind 499", Texts.withSigns(499).digits(9), 500);
        full("digits(10)", 499, importer -> importer.digits(10));
        check.same("digits(99) behind 498", Texts.withSigns(498).digits(99), 500);
        full("digits(100)", 498, importer -> importer.digits(100));
        check.same("digits(MAX) behind 490", Texts.withSigns(490).digits(GREATEST), 500);
        full("digits(MAX)", 491, importer -> importer.digits(GREATEST));
        check.same("digits(999999999) behind 491", Texts.withSigns(491).digits(999999999), 500);
    }

    private static void firstLetter() {
        check.sentence("Promise 4", "Writes LETTERS. - `letter`: the first one, 0 for a");
        written("letters(0, 1)", importer -> importer.letters(0, 1), "a");
        written("letters(1, 1)", importer -> importer.letters(1, 1), "b");
        written("letters(24, 1)", importer -> importer.letters(24, 1), "y");
        written("letters(25, 1)", importer -> importer.letters(25, 1), "z");
    }

    private static void nextLetters() {
        check.sentence("Promise 4", "`many`: how many, each the next one (a behind z)");
        written("letters(0, 12)", importer -> importer.letters(0, 12), "abcdefghijkl");
        written("letters(14, 12)", importer -> importer.letters(14, 12), "opqrstuvwxyz");
        written("letters(15, 12)", importer -> importer.letters(15, 12), "pqrstuvwxyza");
        written("letters(24, 2)", importer -> importer.letters(24, 2), "yz");
        written("letters(25, 2)", importer -> importer.letters(25, 2), "za");
        written("letters(24, 4)", importer -> importer.letters(24, 4), "yzab");
        written("letters(25, 12)", importer -> importer.letters(25, 12), "zabcdefghijk");
    }

    private static void lettersReturn() {
        check.sentence("Promise 4", "Returns how many SIGNS there are.");
        Tallow importer = new Tallow();
        check.same("letters(0, 1)", importer.letters(0, 1), 1);
        check.same("letters(20, 12)", importer.letters(20, 12), 13);
        check.same("many(0)", importer.many(0), 13);
    }

    private static void lettersRange() {
        check.sentence("Promise 4",
            "Throws `IllegalArgumentException` if letter is not 0 to 25, or many is not 1 to 12");
        check.same("letters(0, 1)", new Tallow().letters(0, 1), 1);
        check.same("letters(25, 12)", new Tallow().letters(25, 12), 12);
        for (int letter : new int[] {-1, 26, LEAST, GREATEST}) {
            bad("letters(" + letter + ", 1)", importer -> importer.letters(letter, 1));
        }
        for (int many : new int[] {0, 13, -1, LEAST, GREATEST}) {
            bad("letters(25, " + many + ")", importer -> importer.letters(25, many));
        }
    }

    private static void lettersRoom() {
        check.sentence("Promise 4", "Throws `IllegalStateException` if there would be more than 500");
        check.same("letters(0, 1) behind 499", Texts.withSigns(499).letters(0, 1), 500);
        full("letters(0, 1)", 500, importer -> importer.letters(0, 1));
        full("letters(0, 2)", 499, importer -> importer.letters(0, 2));
        check.same("letters(0, 12) behind 488", Texts.withSigns(488).letters(0, 12), 500);
        full("letters(0, 12)", 489, importer -> importer.letters(0, 12));
    }

    private static void threeWritten() {
        check.sentence("Promise 5", "Writes the DIGITS of three numbers, with a SIGN behind each of the first two. "
            + "- `a`: the first number - `b`: the second one - `c`: the third one - `sign`: the SIGN");
        written("three(0, 0, 0, 9)", importer -> importer.three(0, 0, 0, 9), "0/0/0");
        written("three(1, 20, 300, 9)", importer -> importer.three(1, 20, 300, 9), "1/20/300");
        written("three(300, 20, 1, 0)", importer -> importer.three(300, 20, 1, 0), "300,20,1");
        written("three(9, 10, 9, 45)", importer -> importer.three(9, 10, 9, 45), "9z10z9");
        written("three of MAX", importer -> importer.three(GREATEST, GREATEST, GREATEST, 7),
            "2147483647.2147483647.2147483647");
        Tallow importer = Texts.bars("");
        importer.three(7, 8, 9, 3);
        check.same("no sign behind the third", importer.width(0), 3);
    }

    private static void threeReturns() {
        check.sentence("Promise 5", "Returns how many SIGNS there are.");
        Tallow importer = new Tallow();
        check.same("three(0, 0, 0, 0)", importer.three(0, 0, 0, 0), 5);
        check.same("three(9, 10, 100, 5)", importer.three(9, 10, 100, 5), 13);
        check.same("many(0)", importer.many(0), 13);
    }

    private static void threeRange() {
        check.sentence("Promise 5",
            "Throws `IllegalArgumentException` if a, b or c is less than 0, or sign is not 0 to 45");
        check.same("three(0, 0, 0, 0)", new Tallow().three(0, 0, 0, 0), 5);
        check.same("three(0, 0, 0, 45)", new Tallow().three(0, 0, 0, 45), 5);
        for (int n : new int[] {-1, LEAST}) {
            bad("three(" + n + ", 0, 0, 0)", importer -> importer.three(n, 0, 0, 0));
            bad("three(0, " + n + ", 0, 0)", importer -> importer.three(0, n, 0, 0));
            bad("three(0, 0, " + n + ", 0)", importer -> importer.three(0, 0, n, 0));
        }
        for (int sign : new int[] {-1, 46, LEAST, GREATEST}) {
            bad("three(0, 0, 0, " + sign + ")", importer -> importer.three(0, 0, 0, sign));
        }
    }

    private static void threeRoom() {
        check.sentence("Promise 5", "Throws `IllegalStateException` if there would be more than 500");
        check.same("three(1, 2, 3, 5) behind 495", Texts.withSigns(495).three(1, 2, 3, 5), 500);
        full("three(1, 2, 3, 5)", 496, importer -> importer.three(1, 2, 3, 5));
        full("three(1, 2, 3, 5)", 500, importer -> importer.three(1, 2, 3, 5));
        full("three(10, 2, 3, 5)", 495, importer -> importer.three(10, 2, 3, 5));
        full("three(1, 20, 3, 5)", 495, importer -> importer.three(1, 20, 3, 5));
        full("three(1, 2, 30, 5)", 495, importer -> importer.three(1, 2, 30, 5));
        check.same("three of MAX behind 468", Texts.withSigns(468).three(GREATEST, GREATEST, GREATEST, 5), 500);
        full("three of MAX", 469, importer -> importer.three(GREATEST, GREATEST, GREATEST, 5));
    }

    private static void clearEmpties() {
        check.sentence("Promise 6", "Empties the TEXT (all that was told stays, SHARE and RULES, too).");
        Tallow importer = Check.of("\"a\"b|c\n1|2");
        importer.tell(0, 3);
        importer.tell(1, 1);
        importer.tell(2, 1);
        importer.setShare(33);
        for (int column = 0; column < 20; column++) {
            importer.setRule(column, column % 4);
        }
        importer.clear();
        for (int what = 0; what <= 6; what++) {
            check.same("many(" + what + ")", importer.many(what), 0);
        }
        check.same("PARTER told", importer.tell(0, 0), 3);
        check.same("MARK told", importer.tell(1, 0), 1);
        check.same("HEADING told", importer.tell(2, 0), 1);
        check.same("SHARE", importer.setShare(80), 33);
        for (int column = 0; column < 20; column++) {
            check.same("RULE of " + column, importer.setRule(column, 0), column % 4);
        }
        Tallow guessing = Check.of("a|b\n1|2");
        guessing.clear();
        check.same("what was not told is guessed still", guessing.tell(0, 0), -1);
        behindClear(Check.of("a|b\n1|\"2"), "1;2");
        behindClear(Check.of("\"a|b"), "");
        behindClear(Check.of("a|\""), "a|");
        behindClear(Check.of("\"a\"\""), "\"a\"");
        behindClear(Check.of("a|b|c"), "a");
        behindClear(Check.of("1\n2\n3\n4\n5"), "a\n1");
        behindClear(Texts.withSigns(500), "ab|1,5\n-2|\"y");
    }

    /** Behind clear, an importer with another text is as a new one with that text. */
    private static void behindClear(Tallow importer, String text) {
        importer.digest();
        importer.clear();
        Check.write(importer, text);
        check.same("behind clear, an importer of " + text, Shown.all(importer), Shown.all(Check.of(text)));
    }

    private static void clearReturns() {
        check.sentence("Promise 6", "Returns how many SIGNS there were.");
        check.same("of none", new Tallow().clear(), 0);
        check.same("of one", Check.of(" ").clear(), 1);
        check.same("of 499", Texts.withSigns(499).clear(), 499);
        Tallow full = Texts.withSigns(500);
        check.same("of 500", full.clear(), 500);
        check.same("of none again", full.clear(), 0);
        check.same("500 signs behind it", lettersBehindClear(full), 500);
    }

    private static int lettersBehindClear(Tallow importer) {
        for (int call = 0; call < 49; call++) {
            importer.letters(0, 10);
        }
        return importer.letters(0, 10);
    }
}
