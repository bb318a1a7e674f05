import java.util.Arrays;
import java.util.List;
import java.util.function.Consumer;
import java.util.function.ObjIntConsumer;
import java.util.function.Supplier;

/** Each call changes what its promise says, and nothing else: the text and what was told stay as they were. */
public final class ChangesTest {
    private static final Check check = new Check("ChangesTest");
    private static final List<Supplier<State>> STATES = List.of(ChangesTest::told, ChangesTest::guessing);

    /** What an importer holds. */
    private static final class State {
        private String text = "";
        private final int[] told = {-1, -1, -1};
        private int share = 80;
        private final int[] rules = new int[20];

        Tallow importer() {
            Tallow importer = new Tallow();
            for (int what = 0; what < told.length; what++) {
                importer.tell(what, told[what]);
            }
            importer.setShare(share);
            for (int column = 0; column < rules.length; column++) {
                importer.setRule(column, rules[column]);
            }
            Check.write(importer, text);
            return importer;
        }
    }

    public static void main(String[] args) {
        writing();
        telling();
        asking();
        check.end();
    }

    /** All is told, and has another value than at first. */
    private static State told() {
        State state = new State();
        state.text = "ab;cd\n1,5;y\n2;\"y\"z\n;n";
        Arrays.fill(state.told, 1);
        state.share = 33;
        for (int column = 0; column < state.rules.length; column++) {
            state.rules[column] = 1 + column % 3;
        }
        return state;
    }

    private static State guessing() {
        State state = new State();
        state.text = "ab|cd\n1.5|x\n\"2\"3|4\n5";
        return state;
    }

    /** Makes the call ahead of all reading and behind it, and compares with an importer that was made as it is due. */
    private static void changes(String call, Consumer<Tallow> made, Consumer<State> due) {
        for (Supplier<State> maker : STATES) {
            State after = maker.get();
            due.accept(after);
            Tallow unread = maker.get().importer();
            made.accept(unread);
            check.same("the importer behind " + call, Shown.all(unread), Shown.all(after.importer()));
            Tallow read = maker.get().importer();
            read.digest();
            made.accept(read);
            check.same("the importer that was read, behind " + call, Shown.all(read), Shown.all(after.importer()));
        }
    }

    private static void writes(String call, Consumer<Tallow> made, String written) {
        changes(call, made, state -> state.text += written);
    }

    private static void writing() {
        for (int sign = 0; sign < Check.SIGNS.length(); sign++) {
            int each = sign;
            writes("sign(" + sign + ")", importer -> importer.sign(each), Check.SIGNS.substring(sign, sign + 1));
        }
        writes("digits(0)", importer -> importer.digits(0), "0");
        writes("digits(407)", importer -> importer.digits(407), "407");
        writes("letters(24, 4)", importer -> importer.letters(24, 4), "yzab");
        writes("three(1, 22, 333, 9)", importer -> importer.three(1, 22, 333, 9), "1/22/333");
        writes("three(1, 0, 2, 5)", importer -> importer.three(1, 0, 2, 5), "1\n0\n2");
        changes("clear()", Tallow::clear, state -> state.text = "");
    }

    private static void telling() {
        int[] most = {3, 1, 1};
        for (int what = 0; what <= 2; what++) {
            for (int n = -1; n <= most[what]; n++) {
                int each = what;
                int number = n;
                changes("tell(" + what + ", " + n + ")", importer -> importer.tell(each, number),
                    state -> state.told[each] = number);
            }
        }
        for (int share : new int[] {1, 33, 34, 80, 100}) {
            changes("setShare(" + share + ")", importer -> importer.setShare(share), state -> state.share = share);
        }
        for (int column = 0; column < 20; column++) {
            for (int rule = 0; rule <= 3; rule++) {
                int each = column;
                int number = rule;
                changes("setRule(" + column + ", " + rule + ")", importer -> importer.setRule(each, number),
                    state -> state.rules[each] = number);
            }
        }
    }

    private static void asks(String call, Consumer<Tallow> made) {
        changes(call, made, state -> { });
    }

    /** The call with each of the numbers that it can be asked with. */
    private static void asks(String call, int first, int last, ObjIntConsumer<Tallow> made) {
        for (int number = first; number <= last; number++) {
            int each = number;
            asks(call + " " + number, importer -> made.accept(importer, each));
        }
    }

    private static void asking() {
        asks("used of", 0, 2, Tallow::used);
        asks("score of", 0, 3, Tallow::score);
        asks("many of", 0, 6, Tallow::many);
        asks("cell of 1, 1,", 0, 4, (importer, what) -> importer.cell(1, 1, what));
        asks("column of 1,", 0, 4, (importer, what) -> importer.column(1, what));
        asks("extreme of 0,", 0, 1, (importer, what) -> importer.extreme(0, what));
        asks("fault of 0,", 0, 2, (importer, what) -> importer.fault(0, what));
        asks("keptWith of", 0, 3, Tallow::keptWith);
        asks("kindWith of 0,", 1, 100, (importer, share) -> importer.kindWith(0, share));
        asks("width(3)", importer -> importer.width(3));
        asks("signAt(0, 1, 1)", importer -> importer.signAt(0, 1, 1));
        asks("signAt(0, 1, 9)", importer -> importer.signAt(0, 1, 9));
        asks("sum(0)", importer -> importer.sum(0));
        asks("mean(0)", importer -> importer.mean(0));
        asks("kept(0)", importer -> importer.kept(0));
        asks("value(0, 1)", importer -> importer.value(0, 1));
        asks("find(0, 1500)", importer -> importer.find(0, 1500));
        asks("find(0, 1)", importer -> importer.find(0, 1));
        asks("digest()", Tallow::digest);
    }
}
