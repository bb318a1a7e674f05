/** Promises 20 to 23: fault, kept, value and find. */
public final class FaultsTest {
    private static final Class<IllegalArgumentException> BAD_ARGUMENT = IllegalArgumentException.class;
    private static final Class<IndexOutOfBoundsException> NO_SUCH = IndexOutOfBoundsException.class;
    private static final Check check = new Check("FaultsTest");

    public static void main(String[] args) {
        faultsInOrder();
        firstFaultOfCell();
        faultsOfRules();
        faultsOfWideRows();
        kept();
        values();
        find();
        wrongArguments();
        check.end();
    }

    private static Tallow parted(String text) {
        Tallow importer = Check.of(text);
        importer.tell(0, 3);
        importer.tell(2, 0);
        return importer;
    }

    private static void faultsInOrder() {
        Tallow importer = parted("1|2\n3\n4|5|6\nx|\"7\"8\n\"9");
        importer.setShare(50);
        check.same("faults row by row", Shown.faults(importer), "1,-1,4 2,-1,5 3,0,3 3,1,1 4,-1,4 4,0,2");
        check.same("kept rows", Shown.kept(importer), "0");
        importer.tell(2, 1);
        check.same("the heading has no faults, but counts", Shown.faults(importer), "1,-1,4 2,-1,5 3,0,3 3,1,1 4,-1,4 4,0,2");
        Tallow headed = parted("\"a\"b|c|d\n1|2|3\n");
        headed.tell(2, 1);
        check.same("a fault of the heading is none", Shown.faults(headed), "");
        check.same("the heading is not kept", Shown.kept(headed), "1");
    }

    private static void firstFaultOfCell() {
        Tallow importer = parted("1|1\n2|2\n\"x\"y|\"\"\n\"1\"|2\n4|\"z\"w\n");
        importer.setShare(60);
        importer.setRule(0, 3);
        importer.setRule(1, 3);
        check.same("one fault a cell", Shown.faults(importer), "2,0,1 2,1,6 3,0,7 3,1,7 4,1,1");
    }

    private static void faultsOfRules() {
        String text = "1|a\n1|a\n|b\n2|b\n|c\n";
        Tallow importer = parted(text);
        check.same("no rule", Shown.faults(importer), "");
        check.same("kept without rule", Shown.kept(importer), "0 2 3 4");
        importer.setRule(0, 1);
        check.same("rule 1", Shown.faults(importer), "2,0,6 4,0,6");
        importer.setRule(0, 2);
        check.same("rule 2", Shown.faults(importer), "1,0,7");
        importer.setRule(0, 3);
        check.same("rule 3", Shown.faults(importer), "1,0,7 2,0,6 4,0,6");
        importer.setRule(0, 0);
        importer.setRule(1, 2);
        check.same("rule 2 of the next column", Shown.faults(importer), "1,1,7 3,1,7");
        check.same("kept with that", Shown.kept(importer), "0 2 4");
        Tallow wrongAhead = parted("1|2\n5\n5|6\n");
        wrongAhead.setRule(0, 2);
        check.same("the same signs in a row that is not right", Shown.faults(wrongAhead), "1,-1,4 2,0,7");
        Tallow heading = parted("1|2\n1|3\n");
        heading.tell(2, 1);
        heading.setRule(0, 2);
        check.same("the same signs in the heading", Shown.faults(heading), "");
        Tallow notThere = parted("1|2\n3|4\n");
        notThere.setRule(2, 3);
        check.same("a rule of a column that is not there", Shown.faults(notThere), "");
        Tallow widerCell = parted("1|2|\n3|4\n5|6\n");
        widerCell.setRule(2, 1);
        check.same("a cell behind the columns has no fault", Shown.faults(widerCell), "0,-1,5");
        Tallow value = parted("1|\n01|\n");
        value.setRule(0, 2);
        check.same("the same value in other signs", Shown.faults(value), "");
    }

    private static void faultsOfWideRows() {
        String cells = "a|b|c|d|e|f|g|h|i|j|k|l|m|n|o|p|q|r|s|t";
        Tallow importer = parted(cells + "|u\n" + cells + "|v\n" + cells + "\n" + cells + "|x|y\n");
        check.same("widths beyond twenty count", Shown.faults(importer), "2,-1,4 3,-1,5");
        check.same("cells behind the twentieth do not differ", Shown.kept(importer), "0");
        Tallow quoted = parted(cells + "|\"u\"v\n" + cells + "|x\n");
        check.same("a fault behind the twentieth cell is none", Shown.faults(quoted), "");
    }

    private static void kept() {
        Tallow importer = parted("1|2\n3|4\n1|2\n\"1\"|2\n2|1\n3|4|5\n3|4\n");
        check.same("each kept once", Shown.kept(importer), "0 1 4");
        Tallow headed = Check.of("aa|bb\n1|2\naa\n3|4\n");
        check.same("the heading is counted", Shown.kept(headed), "1 3");
        check.same("a row with a fault does not hide one", Shown.kept(parted("1|2|3\n1|2\n4|5\n")), "1 2");
    }

    private static void values() {
        Tallow importer = parted("1.5|1/1/1901|y|7\n2|2/1/1900|n|ab\n|||\n");
        int[][] due = {{1500, 365, 1, 1}, {2000, 1, 0, 2}, {0, 0, 0, 0}};
        for (int place = 0; place < 3; place++) {
            for (int column = 0; column < 4; column++) {
                check.same("value(" + place + ", " + column + ")", importer.value(place, column), due[place][column]);
            }
        }
        Tallow great = parted("-999999\n1.5\n");
        check.same("a whole value of a decimal column", great.value(0, 0), -999999000);
        Tallow skipped = parted("1\n1\n2\n");
        check.same("a place is not a row", skipped.value(1, 0), 2);
    }

    private static void find() {
        Tallow importer = parted("5|a\n|bb\n0|cc\n5|d\nx|e\n7|f\n8|g\n");
        check.same("the first with the value", importer.find(0, 5), 0);
        check.same("an empty cell has no value", importer.find(0, 0), 2);
        check.same("a value of a row that is not kept", importer.find(0, 1), -1);
        check.same("a place behind a row that is not kept", importer.find(0, 7), 4);
        check.same("words by their length", importer.find(1, 2), 1);
        check.same("no such value", importer.find(1, 3), -1);
        Tallow decimals = parted("1.5\n2\n");
        check.same("a whole cell of a decimal column", decimals.find(0, 2000), 1);
        check.same("not by its own value", decimals.find(0, 2), -1);
        Tallow empty = parted("|a\n");
        check.same("nothing but empty cells", empty.find(0, 0), -1);
    }

    private static void wrongArguments() {
        Tallow importer = parted("1|2\n3\n1|2\n4|5\n");
        for (int place : new int[] {-1, 2, 60, Integer.MIN_VALUE, Integer.MAX_VALUE}) {
            check.fails("kept(" + place + ")", importer, NO_SUCH, () -> importer.kept(place));
            check.fails("value(" + place + ", 0)", importer, NO_SUCH, () -> importer.value(place, 0));
            check.fails("value(0, " + place + ")", importer, NO_SUCH, () -> importer.value(0, place));
            check.fails("find(" + place + ", 0)", importer, NO_SUCH, () -> importer.find(place, 0));
        }
        for (int fault : new int[] {-1, 1, 560, Integer.MIN_VALUE, Integer.MAX_VALUE}) {
            check.fails("fault(" + fault + ", 0)", importer, NO_SUCH, () -> importer.fault(fault, 0));
            check.fails("fault(" + fault + ", 3)", importer, NO_SUCH, () -> importer.fault(fault, 3));
        }
        for (int what : new int[] {-1, 3, Integer.MIN_VALUE, Integer.MAX_VALUE}) {
            check.fails("fault(0, " + what + ")", importer, BAD_ARGUMENT, () -> importer.fault(0, what));
        }
    }
}
