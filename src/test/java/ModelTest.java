/** Runs of calls that are drawn from a fixed row of numbers, on the program and on the model. */
public final class ModelTest {
    private static final int RUNS = 1000;
    private static final int CALLS = 60;
    /** An importer is used for so many calls alone. */
    private static final int MOST_CALLS = 512;
    private static final Check check = new Check("ModelTest");

    private static final String[] CELLS = {"", "", " ", "1", "2", "1", "-3", "7", "2.5", "-0.25", "1.5", "2,5", "-1,75",
        "1/1/1900", "29/2/2000", "29/2/1900", "31/12/2099", "31/4/2001", "1/1/2100", "y", "n", "y", "n", "a", "b", "ab",
        "c d", "1234567", "123456", "\"x\"", "\"\"", "\"1\"", "\"2,5\"", "\"a\"b", "\" 1\"", "\"a\"\"b\"", "\"a;b|c\"",
        "\"a\nb\"", "\"y\"", "\"1.5\"2", " 1 ", " y", "-", "a\"b", "\"", "000", "1.", "10/10/2010"};
    private static final String LOOSE = ",;\t|\"\"\n\n  .-//001122ayn";

    private long state;
    private int made = 0;

    /** An answer, or the exception that came instead of it. */
    private interface Answer {
        Object get();
    }

    public static void main(String[] args) {
        for (int run = 0; run < RUNS; run++) {
            new ModelTest(run).run(run);
        }
        check.end();
    }

    private ModelTest(int run) {
        state = run * 7919L + 17;
        draw(2);
        draw(2);
    }

    /** The next number of a fixed row, from 0 to below the bound. */
    private int draw(int bound) {
        state = state * 6364136223846793005L + 1442695040888963407L;
        return (int) ((state >>> 33) % bound);
    }

    private void run(int run) {
        Tallow program = new Tallow();
        ModelFace model = new ModelFace();
        for (int part = 0; part < 3; part++) {
            writeText(program, model, draw(4) == 0 ? looseText() : table());
            for (int call = 0; call < CALLS; call++) {
                compare(run, program, model);
            }
            both(run, "digest", program::digest, model::digest);
            if (draw(2) == 0) {
                both(run, "clear", program::clear, model::clear);
            }
        }
    }

    /** Leaves some calls to look at what is written, and in most runs some to write more. */
    private void writeText(Tallow program, ModelFace model, String text) {
        int last = MOST_CALLS - 12 - draw(3) * CALLS;
        for (int i = 0; i < text.length() && model.model.text.length() < 500 && made < last; i++) {
            program.sign(Check.SIGNS.indexOf(text.charAt(i)));
            model.sign(Check.SIGNS.indexOf(text.charAt(i)));
            made++;
        }
    }

    private String looseText() {
        StringBuilder text = new StringBuilder();
        int length = draw(8) == 0 ? draw(500) : draw(60);
        for (int i = 0; i < length; i++) {
            text.append(LOOSE.charAt(draw(LOOSE.length())));
        }
        return text.toString();
    }

    /** A table whose columns mostly hold one kind of cells, with some other cells, widths and parters. */
    private String table() {
        StringBuilder text = new StringBuilder();
        int columns = draw(10) == 0 ? 15 + draw(10) : 1 + draw(4);
        int rows = draw(5) == 0 ? draw(80) : draw(9);
        char parter = Check.SIGNS.charAt(draw(4));
        int first = draw(CELLS.length);
        if (draw(2) == 0) {
            for (int column = 0; column < columns; column++) {
                text.append(column == 0 ? "" : parter).append(draw(12) == 0 ? "1" : "ab");
            }
            text.append('\n');
        }
        for (int row = 0; row < rows; row++) {
            int width = draw(8) == 0 ? 1 + draw(columns + 2) : columns;
            for (int column = 0; column < width; column++) {
                text.append(column == 0 ? "" : parter);
                boolean isLike = draw(6) != 0;
                text.append(CELLS[(isLike ? first + column * 3 + draw(3) : draw(CELLS.length)) % CELLS.length]);
            }
            text.append(row == rows - 1 && draw(2) == 0 ? "" : "\n");
        }
        return text.toString();
    }

    private void both(int run, String call, Answer program, Answer model) {
        if (made == MOST_CALLS) {
            return;
        }
        made++;
        check.same("run " + run + ": " + call, answerOf(program), answerOf(model));
    }

    private static String answerOf(Answer answer) {
        try {
            return String.valueOf(answer.get());
        } catch (IllegalArgumentException | IllegalStateException | IndexOutOfBoundsException e) {
            return e.getClass().getName();
        }
    }

    /** A number that mostly is there, sometimes just outside. */
    private int near(int most) {
        return draw(10) == 0 ? -1 - draw(2) : draw(most + 2);
    }

    private void compare(int run, Tallow program, ModelFace model) {
        switch (draw(6)) {
            case 0:
                compareTelling(run, program, model);
                break;
            case 1:
                compareWriting(run, program, model);
                break;
            case 2:
                compareColumns(run, program, model);
                break;
            case 3:
                compareKept(run, program, model);
                break;
            default:
                compareReading(run, program, model);
        }
    }

    private void compareTelling(int run, Tallow program, ModelFace model) {
        int a = near(draw(2) == 0 ? 2 : 20);
        int b = near(3);
        int share = draw(3) == 0 ? near(101) : 10 * draw(11);
        switch (draw(3)) {
            case 0:
                both(run, "tell " + a + ", " + b, () -> program.tell(a, b), () -> model.tell(a, b));
                break;
            case 1:
                both(run, "setShare " + share, () -> program.setShare(share), () -> model.setShare(share));
                break;
            default:
                both(run, "setRule " + a + ", " + b, () -> program.setRule(a, b), () -> model.setRule(a, b));
        }
    }

    private void compareWriting(int run, Tallow program, ModelFace model) {
        int a = near(45);
        int b = near(12);
        int c = draw(3) == 0 ? near(3000) : 1900 + draw(200);
        switch (draw(4)) {
            case 0:
                both(run, "sign " + a, () -> program.sign(a), () -> model.sign(a));
                break;
            case 1:
                both(run, "digits " + c, () -> program.digits(c), () -> model.digits(c));
                break;
            case 2:
                both(run, "letters " + a + ", " + b, () -> program.letters(a, b), () -> model.letters(a, b));
                break;
            default:
                int sign = draw(2) == 0 ? 9 : near(46);
                both(run, "three " + a + ", " + b + ", " + c + ", " + sign,
                    () -> program.three(a, b, c, sign), () -> model.three(a, b, c, sign));
        }
    }

    private void compareReading(int run, Tallow program, ModelFace model) {
        int row = near(Math.max(0, model.many(1) - 1));
        int column = near(draw(4) == 0 ? 20 : Math.max(0, model.many(2) - 1));
        int what = near(4);
        switch (draw(6)) {
            case 0:
                both(run, "used " + what, () -> program.used(what), () -> model.used(what));
                break;
            case 1:
                both(run, "score " + what, () -> program.score(what), () -> model.score(what));
                break;
            case 2:
                int count = near(7);
                both(run, "many " + count, () -> program.many(count), () -> model.many(count));
                break;
            case 3:
                both(run, "width " + row, () -> program.width(row), () -> model.width(row));
                break;
            case 4:
                both(run, "cell " + row + ", " + column + ", " + what,
                    () -> program.cell(row, column, what), () -> model.cell(row, column, what));
                break;
            default:
                both(run, "signAt " + row + ", " + column + ", " + what,
                    () -> program.signAt(row, column, what), () -> model.signAt(row, column, what));
        }
    }

    private void compareColumns(int run, Tallow program, ModelFace model) {
        int column = near(Math.max(0, model.many(2) - 1));
        int what = near(draw(2) == 0 ? 1 : 4);
        int share = near(100);
        switch (draw(5)) {
            case 0:
                both(run, "column " + column + ", " + what,
                    () -> program.column(column, what), () -> model.column(column, what));
                break;
            case 1:
                both(run, "extreme " + column + ", " + what,
                    () -> program.extreme(column, what), () -> model.extreme(column, what));
                break;
            case 2:
                both(run, "sum " + column, () -> program.sum(column), () -> model.sum(column));
                break;
            case 3:
                both(run, "mean " + column, () -> program.mean(column), () -> model.mean(column));
                break;
            default:
                both(run, "kindWith " + column + ", " + share,
                    () -> program.kindWith(column, share), () -> model.kindWith(column, share));
        }
    }

    private void compareKept(int run, Tallow program, ModelFace model) {
        int place = near(Math.max(0, model.many(5) - 1));
        int column = near(Math.max(0, model.many(2) - 1));
        int fault = near(model.many(4));
        int what = near(3);
        switch (draw(5)) {
            case 0:
                both(run, "fault " + fault + ", " + what,
                    () -> program.fault(fault, what), () -> model.fault(fault, what));
                break;
            case 1:
                both(run, "kept " + place, () -> program.kept(place), () -> model.kept(place));
                break;
            case 2:
                both(run, "value " + place + ", " + column,
                    () -> program.value(place, column), () -> model.value(place, column));
                break;
            case 3:
                boolean isThere = place >= 0 && place < model.many(5) && column >= 0 && column < model.many(2);
                int value = isThere ? model.value(place, column) : what;
                both(run, "find " + column + ", " + value,
                    () -> program.find(column, value), () -> model.find(column, value));
                break;
            default:
                both(run, "keptWith " + what, () -> program.keptWith(what), () -> model.keptWith(what));
        }
    }
}
