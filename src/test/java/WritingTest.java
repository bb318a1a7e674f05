/** Promises 1 to 6: a new object, sign, digits, letters, three and clear. */
public final class WritingTest {
    private static final Class<IllegalArgumentException> BAD_ARGUMENT = IllegalArgumentException.class;
    private static final Class<IllegalStateException> FULL = IllegalStateException.class;
    private static final Check check = new Check("WritingTest");

    public static void main(String[] args) {
        newObject();
        sign();
        digits();
        letters();
        three();
        clear();
        readBetweenWrites();
        readBehindClear();
        check.end();
    }

    /** The signs of the first cell, as the tests write them. */
    private static String firstCell(Tallow importer) {
        StringBuilder signs = new StringBuilder();
        for (int i = 0; importer.signAt(0, 0, i) >= 0; i++) {
            signs.append(Check.SIGNS.charAt(importer.signAt(0, 0, i)));
        }
        return signs.toString();
    }

    private static Tallow withSigns(int many) {
        Tallow importer = new Tallow();
        for (int i = 0; i < many; i++) {
            importer.sign(20);
        }
        return importer;
    }

    private static void newObject() {
        Tallow importer = new Tallow();
        for (int what = 0; what <= 6; what++) {
            check.same("many(" + what + ") of a new object", importer.many(what), 0);
        }
        for (int what = 0; what <= 2; what++) {
            check.same("used(" + what + ") of a new object", importer.used(what), 0);
            check.same("tell(" + what + ", 0) of a new object", importer.tell(what, 0), -1);
        }
        check.same("setShare of a new object", importer.setShare(5), 80);
        for (int column = 0; column < 20; column++) {
            check.same("setRule of a new object", importer.setRule(column, 1), 0);
        }
    }

    private static void sign() {
        Tallow importer = new Tallow();
        for (int sign = 0; sign <= 45; sign++) {
            check.same("sign(" + sign + ")", importer.sign(sign), sign + 1);
        }
        check.same("many(0) behind all signs", importer.many(0), 46);
        check.fails("sign(-1)", importer, BAD_ARGUMENT, () -> importer.sign(-1));
        check.fails("sign(46)", importer, BAD_ARGUMENT, () -> importer.sign(46));
        check.fails("sign(MIN)", importer, BAD_ARGUMENT, () -> importer.sign(Integer.MIN_VALUE));
        check.fails("sign(MAX)", importer, BAD_ARGUMENT, () -> importer.sign(Integer.MAX_VALUE));
        Tallow full = withSigns(499);
        check.same("the 500th sign", full.sign(21), 500);
        check.same("signs of the full text", full.many(0), 500);
        check.same("the last sign", full.signAt(0, 0, 499), 21);
        check.fails("the 501st sign", full, FULL, () -> full.sign(20));
        check.fails("a wrong sign for a full text", full, BAD_ARGUMENT, () -> full.sign(46));
    }

    private static void digits() {
        Tallow importer = new Tallow();
        check.same("digits(0)", importer.digits(0), 1);
        check.same("digits(9)", importer.digits(9), 2);
        check.same("digits(10)", importer.digits(10), 4);
        check.same("digits(105)", importer.digits(105), 7);
        check.same("digits(MAX)", importer.digits(Integer.MAX_VALUE), 17);
        check.same("digits written", firstCell(importer), "09101052147483647");
        check.fails("digits(-1)", importer, BAD_ARGUMENT, () -> importer.digits(-1));
        check.fails("digits(MIN)", importer, BAD_ARGUMENT, () -> importer.digits(Integer.MIN_VALUE));
        Tallow nearlyFull = withSigns(498);
        check.fails("digits(100) with room for two", nearlyFull, FULL, () -> nearlyFull.digits(100));
        check.fails("digits(-1) with room for two", nearlyFull, BAD_ARGUMENT, () -> nearlyFull.digits(-1));
        check.same("digits(99) with room for two", nearlyFull.digits(99), 500);
        check.fails("digits(0) without room", nearlyFull, FULL, () -> nearlyFull.digits(0));
    }

    private static void letters() {
        Tallow importer = new Tallow();
        check.same("letters(0, 1)", importer.letters(0, 1), 1);
        check.same("letters(25, 1)", importer.letters(25, 1), 2);
        check.same("letters(3, 12)", importer.letters(3, 12), 14);
        check.same("letters(24, 4)", importer.letters(24, 4), 18);
        check.same("letters written", firstCell(importer), "azdefghijklmnoyzab");
        check.fails("letters(-1, 1)", importer, BAD_ARGUMENT, () -> importer.letters(-1, 1));
        check.fails("letters(26, 1)", importer, BAD_ARGUMENT, () -> importer.letters(26, 1));
        check.fails("letters(0, 0)", importer, BAD_ARGUMENT, () -> importer.letters(0, 0));
        check.fails("letters(0, 13)", importer, BAD_ARGUMENT, () -> importer.letters(0, 13));
        check.fails("letters(0, -1)", importer, BAD_ARGUMENT, () -> importer.letters(0, -1));
        check.fails("letters(MAX, MAX)", importer, BAD_ARGUMENT,
            () -> importer.letters(Integer.MAX_VALUE, Integer.MAX_VALUE));
        Tallow nearlyFull = withSigns(495);
        check.fails("letters(0, 6) with room for five", nearlyFull, FULL, () -> nearlyFull.letters(0, 6));
        check.fails("letters(0, 13) with room for five", nearlyFull, BAD_ARGUMENT, () -> nearlyFull.letters(0, 13));
        check.same("letters(0, 5) with room for five", nearlyFull.letters(0, 5), 500);
    }

    private static void three() {
        Tallow importer = new Tallow();
        check.same("three(1, 20, 300, 9)", importer.three(1, 20, 300, 9), 8);
        check.same("three(0, 0, 0, 45)", importer.three(0, 0, 0, 45), 13);
        check.same("three written", firstCell(importer), "1/20/3000z0z0");
        check.same("three with MAX", importer.three(Integer.MAX_VALUE, Integer.MAX_VALUE, Integer.MAX_VALUE, 0), 45);
        check.fails("three(-1, 0, 0, 0)", importer, BAD_ARGUMENT, () -> importer.three(-1, 0, 0, 0));
        check.fails("three(0, -1, 0, 0)", importer, BAD_ARGUMENT, () -> importer.three(0, -1, 0, 0));
        check.fails("three(0, 0, -1, 0)", importer, BAD_ARGUMENT, () -> importer.three(0, 0, -1, 0));
        check.fails("three(0, 0, 0, -1)", importer, BAD_ARGUMENT, () -> importer.three(0, 0, 0, -1));
        check.fails("three(0, 0, 0, 46)", importer, BAD_ARGUMENT, () -> importer.three(0, 0, 0, 46));
        Tallow nearlyFull = withSigns(493);
        check.fails("three(10, 10, 10, 5) with room for seven", nearlyFull, FULL,
            () -> nearlyFull.three(10, 10, 10, 5));
        check.fails("three(10, 10, 10, 46) with room for seven", nearlyFull, BAD_ARGUMENT,
            () -> nearlyFull.three(10, 10, 10, 46));
        check.same("three(10, 10, 1, 5) with room for seven", nearlyFull.three(10, 10, 1, 5), 500);
    }

    private static void clear() {
        check.same("clear of a new object", new Tallow().clear(), 0);
        Tallow importer = Check.of("a|\"b\ny|1\n");
        importer.tell(0, 1);
        importer.tell(1, 1);
        importer.tell(2, 1);
        importer.setShare(33);
        importer.setRule(4, 3);
        check.same("clear", importer.clear(), 9);
        check.same("many(0) behind clear", importer.many(0), 0);
        check.same("many(1) behind clear", importer.many(1), 0);
        check.same("clear twice", importer.clear(), 0);
        check.same("the parter told stays", importer.used(0), 1);
        check.same("the mark told stays", importer.used(1), 1);
        check.same("the heading told stays", importer.used(2), 1);
        check.same("the share stays", importer.setShare(80), 33);
        check.same("the rule stays", importer.setRule(4, 0), 3);
        Check.write(importer, "c");
        check.same("signs written behind clear", importer.many(0), 1);
        check.same("the first sign behind clear", importer.signAt(0, 0, 0), 22);
        check.same("nothing of the old text is left", importer.signAt(0, 0, 1), -1);
        check.same("one row behind clear", importer.many(1), 1);
        Tallow full = withSigns(500);
        check.same("clear of a full text", full.clear(), 500);
        check.same("room behind clear", full.sign(0), 1);
    }

    /** What is read between two writes must not hold behind the second one. */
    private static void readBetweenWrites() {
        Tallow importer = new Tallow();
        check.same("rows ahead of all", importer.many(1), 0);
        importer.sign(20);
        check.same("rows behind sign", importer.many(1), 1);
        importer.digits(12);
        check.same("signs of the cell behind digits", importer.cell(0, 0, 2), 3);
        importer.letters(0, 4);
        check.same("signs of the cell behind letters", importer.cell(0, 0, 2), 7);
        importer.three(1, 2, 3, 0);
        check.same("width behind three", importer.width(0), 3);
        check.same("score behind three", importer.score(0), 103);
        importer.clear();
        check.same("rows behind clear", importer.many(1), 0);
        check.same("score behind clear", importer.score(0), 0);
        Check.write(importer, "1\n");
        check.same("kept ahead of more", importer.keptWith(2), 1);
        Check.write(importer, "2\n");
        check.same("kept behind more, asked first", importer.keptWith(2), 2);
    }

    /** Signs of the text ahead of clear stand no more behind the end of a shorter one. */
    private static void readBehindClear() {
        Tallow importer = Check.of("abc\"\"");
        importer.clear();
        Check.write(importer, "\"a\"");
        check.same("the quote at the end is the last one", importer.cell(0, 0, 3), 0);
        check.same("and not in the cell", importer.cell(0, 0, 2), 1);
        Tallow parted = Check.of("a|\"");
        parted.tell(0, 3);
        parted.clear();
        Check.write(parted, "a|");
        check.same("no quote behind the last parter", parted.many(6), 0);
        check.same("two cells", parted.width(0), 2);
        parted.clear();
        Check.write(parted, "b");
        check.same("no parter behind the last letter", parted.width(0), 1);
        parted.clear();
        Check.write(parted, "1|2|3\n4|5\n6|7|8\n9|0|1\n");
        check.same("three columns", parted.many(2), 3);
        parted.clear();
        Check.write(parted, "1|2");
        check.same("two columns", parted.many(2), 2);
        check.same("score of two columns", parted.score(3), 102);
    }
}
