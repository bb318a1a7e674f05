import java.util.function.Consumer;
import java.util.function.Supplier;

/** Compares answers with those that are due, and tells those that are not. */
final class Check {
    /** The signs 0 to 45, each by the character that the tests write for it. */
    static final String SIGNS = ",;\t|\"\n .-/0123456789abcdefghijklmnopqrstuvwxyz";

    /** A call that may throw. */
    interface Call {
        void make();
    }

    private final String test;
    private String sentence = "";
    private int madeAhead = 0;
    private int made = 0;
    private int wrong = 0;

    Check(String test) {
        this.test = test;
    }

    static Tallow of(String text) {
        Tallow importer = new Tallow();
        write(importer, text);
        return importer;
    }

    static void write(Tallow importer, String text) {
        for (int i = 0; i < text.length(); i++) {
            importer.sign(SIGNS.indexOf(text.charAt(i)));
        }
    }

    /** The answers from here on are those of this sentence, at its boundary: one from each side at least. */
    void sentence(String where, String words) {
        endSentence();
        sentence = where + ", \"" + words + "\": ";
    }

    void same(String what, long got, long due) {
        tell(got == due, what, got, due);
    }

    void same(String what, double got, double due) {
        tell(got == due, what, got, due);
    }

    void same(String what, String got, String due) {
        tell(got.equals(due), what, got, due);
    }

    /** The call throws exactly this exception, and the importer is as it was. */
    void fails(String what, Tallow importer, Class<? extends RuntimeException> due, Call call) {
        long before = importer.digest();
        String got = "nothing";
        try {
            call.make();
        } catch (RuntimeException e) {
            got = e.getClass().getName();
        }
        same(what + " throws", got, due.getName());
        same(what + " changes nothing", importer.digest(), before);
    }

    /** The call throws exactly this exception, and the importer is as one to which it was never made. */
    void refused(String what, Supplier<Tallow> maker, Class<? extends RuntimeException> due, Consumer<Tallow> call) {
        Tallow importer = maker.get();
        String got = "nothing";
        try {
            call.accept(importer);
        } catch (RuntimeException e) {
            got = e.getClass().getName();
        }
        same(what + " throws", got, due.getName());
        same("the importer behind " + what, Shown.all(importer), Shown.all(maker.get()));
    }

    void end() {
        endSentence();
        System.out.println(test + ": " + made + " answers looked at, " + wrong + " wrong");
        if (wrong != 0 || made == 0) {
            System.exit(1);
        }
    }

    private void endSentence() {
        if (!sentence.isEmpty() && made < madeAhead + 2) {
            wrong++;
            System.out.println(test + ": " + sentence + "fewer than two answers were looked at");
        }
        madeAhead = made;
    }

    private void tell(boolean right, String what, Object got, Object due) {
        made++;
        if (!right) {
            wrong++;
            String line = test + ": " + sentence + what + " answered " + got + ", due is " + due;
            System.out.println(line.replace("\n", "\\n").replace("\t", "\\t"));
        }
    }
}
