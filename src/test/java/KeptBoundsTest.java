import java.util.function.Consumer;
import java.util.function.Supplier;

/** The boundaries that the document names in promises 20 to 23: faults, and what is kept. */
public final class KeptBoundsTest {
    private static final Class<IllegalArgumentException> BAD = IllegalArgumentException.class;
    private static final Class<IndexOutOfBoundsException> NO_SUCH = IndexOutOfBoundsException.class;
    private static final int LEAST = Integer.MIN_VALUE;
    private static final int GREATEST = Integer.MAX_VALUE;
    private static final Check check = new Check("KeptBoundsTest");

    public static void main(String[] args) {
        faultNumber();
        factsOfFault();
        noSuchFault();
        faultRange();
        keptPlace();
        keptRow();
        keptOfNoPlace();
        valuePlace();
        valueColumn();
        values();
        valueOfNone();
        findColumn();
        findValue();
        findFirst();
        findInNoColumn();
        check.end();
    }

    /** Four rows: the second and the last have faults, the third is as the first; kept is 0 alone. */
    private static Tallow faulty() {
        return Texts.data("1|ab\n2|\"c\"d\n1|ab\n3");
    }

    /** A heading and five rows; kept are 1, 3 and 5. */
    private static Tallow headed() {
        return Texts.bars("ab|c\n7|\n7|\n8|d\n\"9\"9|e\n9|fgh");
    }

    private static void refused(String call, Supplier<Tallow> maker, Class<? extends RuntimeException> due,
        Consumer<Tallow> made) {
        check.refused(call, maker, due, made);
    }

    /** A call that is given one number. */
    private interface Asked {
        void of(Tallow importer, int number);
    }

    private static void noSuch(String call, Supplier<Tallow> maker, int count, Asked asked) {
        for (int number : new int[] {-1, count, count + 1, LEAST, GREATEST}) {
            refused(call + " of " + number + ", where " + count + " are there", maker, NO_SUCH,
                importer -> asked.of(importer, number));
        }
    }

    private static void noSuchColumn(String call, Asked asked) {
        noSuch(call, KeptBoundsTest::headed, 2, asked);
        refused(call + " of column 20 of 21 cells", () -> Texts.data("|".repeat(20)), NO_SUCH,
            importer -> asked.of(importer, 20));
        refused(call + " of column 1 of 1", () -> Texts.data("a\nb\nc|d"), NO_SUCH, importer -> asked.of(importer, 1));
        refused(call + " of column 0 of nothing", Tallow::new, NO_SUCH, importer -> asked.of(importer, 0));
    }

    private static void faultNumber() {
        check.sentence("Promise 20", "`fault`: the number of a FAULT, from 0");
        check.same("the first", faulty().fault(0, 0), 1);
        check.same("the last", faulty().fault(1, 0), 3);
    }

    private static void factsOfFault() {
        check.sentence("Promise 20", "`what`: 0 its ROW (from 0, the HEADING counted), 1 its COLUMN, 2 its code Returns "
            + "that.");
        check.same("of a cell", Shown.faults(Texts.data("\"a\"b|c\nd|e")), "0,0,1");
        check.same("of the last cell", Shown.faults(Texts.data("a|b\nc|\"d")), "1,1,2");
        check.same("of a row", Shown.faults(Texts.data("a|b\nc|d\ne")), "2,-1,4");
        check.same("behind a heading", Shown.faults(headed()), "4,0,1");
        Tallow last = Texts.data("a\n".repeat(59) + "b|c");
        check.same("of the 60th row", Shown.faults(last), "59,-1,5");
        check.same("of the 20th column", Shown.faults(Texts.data(Texts.row(19, "a") + "|\"b\"c")), "0,19,1");
        Tallow all = Texts.data("1|a\n2|b\n3|c\n4|d\n5|e\n6|f\n7|g\n8|h\nx|\"i\"j\n1|\n9\n0|k|l");
        all.setRule(0, 3);
        all.setRule(1, 3);
        check.same("all codes", Shown.faults(all), "8,0,3 8,1,1 9,0,7 9,1,6 10,-1,4 11,-1,5");
    }

    private static void noSuchFault() {
        check.sentence("Promise 20", "Throws `IndexOutOfBoundsException` if there is no such FAULT");
        check.same("fault 0 of 2", faulty().fault(0, 2), 1);
        check.same("fault 1 of 2", faulty().fault(1, 2), 4);
        noSuch("fault", KeptBoundsTest::faulty, 2, (importer, fault) -> importer.fault(fault, 0));
        noSuch("fault", () -> Texts.data("1|2"), 0, (importer, fault) -> importer.fault(fault, 0));
        noSuch("fault", Tallow::new, 0, (importer, fault) -> importer.fault(fault, 0));
    }

    private static void faultRange() {
        check.sentence("Promise 20", "Throws `IllegalArgumentException` if what is not 0 to 2");
        check.same("fault(1, 0)", faulty().fault(1, 0), 3);
        check.same("fault(1, 2)", faulty().fault(1, 2), 4);
        for (int what : new int[] {-1, 3, LEAST, GREATEST}) {
            refused("fault(1, " + what + ")", KeptBoundsTest::faulty, BAD, importer -> importer.fault(1, what));
        }
    }

    private static void keptPlace() {
        check.sentence("Promise 21", "`place`: a place among the KEPT ROWS, from 0");
        check.same("the first", headed().kept(0), 1);
        check.same("the second", headed().kept(1), 3);
        check.same("the last", headed().kept(2), 5);
    }

    private static void keptRow() {
        check.sentence("Promise 21", "Returns the number of the ROW (from 0, the HEADING counted).");
        check.same("the first row, without heading", Texts.data("a\nb").kept(0), 0);
        check.same("the first row behind a heading", Texts.bars("a\n1").kept(0), 1);
        check.same("the first row that is right", Texts.data("\"a\"b\nc").kept(0), 1);
        StringBuilder rows = new StringBuilder();
        for (int row = 10; row < 71; row++) {
            rows.append(row).append('\n');
        }
        check.same("the first of 60", Texts.data(rows.toString()).kept(0), 0);
        check.same("the last of 60", Texts.data(rows.toString()).kept(59), 59);
    }

    private static void keptOfNoPlace() {
        check.sentence("Promise 21", "Throws `IndexOutOfBoundsException` if there is no such place");
        check.same("place 2 of 3", headed().kept(2), 5);
        noSuch("kept", KeptBoundsTest::headed, 3, (importer, place) -> importer.kept(place));
        check.same("place 0 of 1", faulty().kept(0), 0);
        noSuch("kept", KeptBoundsTest::faulty, 1, (importer, place) -> importer.kept(place));
        noSuch("kept", () -> Texts.data("\"a\"b"), 0, (importer, place) -> importer.kept(place));
        noSuch("kept", Tallow::new, 0, (importer, place) -> importer.kept(place));
    }

    private static void valuePlace() {
        check.sentence("Promise 22", "`place`: a place among the KEPT ROWS, from 0");
        check.same("the first", headed().value(0, 0), 7);
        check.same("the second", headed().value(1, 0), 8);
        check.same("the last", headed().value(2, 0), 9);
    }

    private static void valueColumn() {
        check.sentence("Promise 22", "`column`: a COLUMN");
        check.same("the first", headed().value(2, 0), 9);
        check.same("the last", headed().value(2, 1), 3);
        check.same("the 20th", Texts.data(Texts.row(19, "1") + "|7").value(0, 19), 7);
        check.same("the 20th of 21 cells", Texts.data(Texts.row(19, "1") + "|7|8").value(0, 19), 7);
    }

    private static void values(String cells, String due) {
        check.same("values of " + cells, Shown.values(Texts.column(cells)), due);
    }

    private static void values() {
        check.sentence("Promise 22", "Returns the VALUE there, as the COLUMN's KIND has it.");
        values("\"\"", "0");
        values("5 \"\" -5", "5 0 -5");
        values("1.5 2 \"\" -0.001", "1500 2000 0 -1");
        values("999999.999 -999999 999999", "999999999 -999999000 999999000");
        values("1 2", "1 2");
        values("1/1/1900 31/12/2099", "0 73048");
        values("y n", "1 0");
        values("abc 12 y 1.5 \"\" 1/1/1900", "3 2 1 3 0 8");
        values("1 2 3 a", "1 1 1 1");
        values("1 2 3 4 a", "1 2 3 4");
    }

    private static void valueOfNone() {
        check.sentence("Promise 22", "Throws `IndexOutOfBoundsException` if there is no such place, or COLUMN");
        check.same("place 2 of 3, column 1 of 2", headed().value(2, 1), 3);
        noSuch("value of a place", KeptBoundsTest::headed, 3, (importer, place) -> importer.value(place, 1));
        noSuchColumn("value", (importer, column) -> importer.value(0, column));
        noSuch("value of a place", () -> Texts.data("\"a\"b"), 0, (importer, place) -> importer.value(place, 0));
        noSuch("value of a place", Tallow::new, 0, (importer, place) -> importer.value(place, 0));
        noSuch("value of neither", KeptBoundsTest::headed, 3, (importer, number) -> importer.value(number, number));
    }

    private static void findColumn() {
        check.sentence("Promise 23", "`column`: a COLUMN");
        check.same("the first", headed().find(0, 9), 2);
        check.same("the last", headed().find(1, 3), 2);
        check.same("not the first", headed().find(1, 9), -1);
        check.same("the 20th", Texts.data(Texts.row(19, "1") + "|7").find(19, 7), 0);
        check.same("the 19th", Texts.data(Texts.row(19, "1") + "|7").find(18, 7), -1);
    }

    private static void find(String cells, int value, int due) {
        check.same("find(0, " + value + ") of " + cells, Texts.column(cells).find(0, value), due);
    }

    private static void findValue() {
        check.sentence("Promise 23", "`value`: a VALUE, as the COLUMN's KIND has it");
        find("1.5 2", 2000, 1);
        find("1.5 2", 2, -1);
        find("1.5 2", 1500, 0);
        find("1.5 2", 1, -1);
        find("1 2", 2, 1);
        find("1 2", 2000, -1);
        find("1/1/1900 2/1/1900", 0, 0);
        find("1/1/1900 2/1/1900", 1, 1);
        find("y n", 0, 1);
        find("y n", 1, 0);
        find("y 12 abc", 1, 0);
        find("y 12 abc", 2, 1);
        find("y 12 abc", 12, -1);
        find("-999999 999999", -999999, 0);
        find("-999999 999999", -1000000, -1);
        find("-999999 999999", LEAST, -1);
        find("-999999 999999", GREATEST, -1);
    }

    private static void findFirst() {
        check.sentence("Promise 23", "Returns the place of the first KEPT ROW that has it there, in a CELL that is not "
            + "EMPTY; -1 if there is none.");
        find("\"\"", 0, -1);
        find("\"\" 0", 0, 1);
        find("0 \"\"", 0, 0);
        find("\"\" 5 7", 0, -1);
        find("5 6 7", 5, 0);
        find("5 6 7", 7, 2);
        find("5 6 7", 4, -1);
        find("5 6 7", 8, -1);
        find("5 05 005", 5, 0);
        find("6 05 005", 5, 1);
        find("5 5 6", 6, 1);
        find("\"5\"5 6 55", 55, 1);
        find("\"5\"5 6", 55, -1);
        check.same("in a column of EMPTY cells", Texts.data("|a").find(0, 0), -1);
        check.same("a value of a row that is too wide", Texts.data("1|2\n3|4\n5|6|7").find(0, 5), -1);
        Tallow headed = Texts.data("5\n6");
        check.same("without heading", headed.find(0, 5), 0);
        headed.tell(2, 1);
        check.same("of the heading", headed.find(0, 5), -1);
        check.same("a place, not a row", headed.find(0, 6), 0);
        Tallow alone = Texts.data("5");
        alone.tell(2, 1);
        check.same("without data", alone.find(0, 5), -1);
    }

    private static void findInNoColumn() {
        check.sentence("Promise 23", "Throws `IndexOutOfBoundsException` if there is no such COLUMN");
        check.same("column 0 of 2", headed().find(0, 7), 0);
        check.same("column 1 of 2", headed().find(1, 1), 1);
        noSuchColumn("find", (importer, column) -> importer.find(column, 1));
    }
}
