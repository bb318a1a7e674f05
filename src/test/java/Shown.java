import java.util.ArrayList;
import java.util.List;
import java.util.function.Supplier;

/** What an importer answers, written so that a test can compare it at once. */
final class Shown {
    private static final int MOST_CELLS = 20;

    private Shown() {
    }

    /** All cells of all rows by their signs: a cell behind each '<', a row behind each '#' and its width. */
    static String cells(Tallow importer) {
        StringBuilder shown = new StringBuilder();
        int rows = importer.many(1);
        for (int row = 0; row < rows; row++) {
            int width = importer.width(row);
            shown.append('#').append(width);
            for (int column = 0; column < Math.min(MOST_CELLS, width); column++) {
                shown.append('<').append(signs(importer, row, column, Integer.MAX_VALUE));
            }
        }
        return shown.toString();
    }

    /** The signs of a cell, but not more than so many of them. */
    private static String signs(Tallow importer, int row, int column, int most) {
        StringBuilder shown = new StringBuilder();
        int length = Math.min(most, importer.cell(row, column, 2));
        for (int place = 0; place < length; place++) {
            shown.append(Check.SIGNS.charAt(importer.signAt(row, column, place)));
        }
        return shown.toString();
    }

    /** All faults, each as row,column,code. */
    static String faults(Tallow importer) {
        StringBuilder shown = new StringBuilder();
        int faults = importer.many(4);
        for (int fault = 0; fault < faults; fault++) {
            shown.append(fault == 0 ? "" : " ").append(importer.fault(fault, 0)).append(',')
                .append(importer.fault(fault, 1)).append(',').append(importer.fault(fault, 2));
        }
        return shown.toString();
    }

    /** The numbers of the kept rows. */
    static String kept(Tallow importer) {
        StringBuilder shown = new StringBuilder();
        int kept = importer.many(5);
        for (int place = 0; place < kept; place++) {
            shown.append(place == 0 ? "" : " ").append(importer.kept(place));
        }
        return shown.toString();
    }

    /** The values of all kept rows, row by row, with the empty cells. */
    static String values(Tallow importer) {
        StringBuilder shown = new StringBuilder();
        int kept = importer.many(5);
        int columns = importer.many(2);
        for (int place = 0; place < kept; place++) {
            shown.append(place == 0 ? "" : " ");
            for (int column = 0; column < columns; column++) {
                shown.append(column == 0 ? "" : ",").append(importer.value(place, column));
            }
        }
        return shown.toString();
    }

    /**
     * All that an importer holds: its digest, signs of its cells, and what was told. What was told is only to be
     * seen when something else is told, so the importer is of no use behind this.
     */
    static String all(Tallow importer) {
        StringBuilder shown = new StringBuilder();
        shown.append(importer.digest());
        int rows = Math.min(4, importer.many(1));
        for (int row = 0; row < rows; row++) {
            for (int column = 0; column < Math.min(3, importer.width(row)); column++) {
                shown.append('<').append(signs(importer, row, column, 12));
            }
        }
        for (int what = 0; what <= 2; what++) {
            shown.append(" told ").append(importer.tell(what, 0));
        }
        shown.append(" share ").append(importer.setShare(100)).append(" rules");
        for (int column = 0; column < MOST_CELLS; column++) {
            shown.append(' ').append(importer.setRule(column, 0));
        }
        return shown.toString();
    }

    /** The numbers that the digest is made of, each from a new importer, as one is used for 512 calls alone. */
    static List<Long> numbersOfDigest(Supplier<Tallow> maker) {
        List<Long> numbers = new ArrayList<>();
        Tallow counts = maker.get();
        for (int what = 0; what <= 2; what++) {
            numbers.add((long) counts.used(what));
        }
        for (int parter = 0; parter <= 3; parter++) {
            numbers.add((long) counts.score(parter));
        }
        for (int what = 0; what <= 6; what++) {
            numbers.add((long) counts.many(what));
        }
        addRows(numbers, maker.get());
        addColumns(numbers, maker.get());
        Tallow importer = maker.get();
        for (int fault = 0; fault < counts.many(4); fault++) {
            for (int what = 0; what <= 2; what++) {
                numbers.add((long) importer.fault(fault, what));
            }
        }
        for (int place = 0; place < counts.many(5); place++) {
            numbers.add((long) importer.kept(place));
        }
        for (int parter = 0; parter <= 3; parter++) {
            numbers.add((long) importer.keptWith(parter));
        }
        return numbers;
    }

    private static void addRows(List<Long> numbers, Tallow importer) {
        int rows = importer.many(1);
        for (int row = 0; row < rows; row++) {
            int width = importer.width(row);
            numbers.add((long) width);
            for (int column = 0; column < Math.min(MOST_CELLS, width); column++) {
                for (int what = 0; what <= 4; what++) {
                    numbers.add((long) importer.cell(row, column, what));
                }
            }
        }
    }

    private static void addColumns(List<Long> numbers, Tallow importer) {
        int columns = importer.many(2);
        for (int column = 0; column < columns; column++) {
            for (int what = 0; what <= 4; what++) {
                numbers.add((long) importer.column(column, what));
            }
            numbers.add((long) importer.extreme(column, 0));
            numbers.add((long) importer.extreme(column, 1));
            numbers.add(importer.sum(column));
        }
    }
}
