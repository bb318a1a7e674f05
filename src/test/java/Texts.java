/** Importers with texts of a shape that several tests need. */
final class Texts {
    static final int BAR = 3;

    private Texts() {
    }

    /** One cell of words with so many signs, written in few calls. */
    static Tallow withSigns(int many) {
        Tallow importer = new Tallow();
        int rest = many;
        while (rest > 0) {
            int next = Math.min(rest, 12);
            importer.letters(0, next);
            rest -= next;
        }
        return importer;
    }

    static Tallow parted(String text, int parter) {
        Tallow importer = Check.of(text);
        importer.tell(0, parter);
        return importer;
    }

    /** A text that BAR parts; the heading is guessed. */
    static Tallow bars(String text) {
        return parted(text, BAR);
    }

    /** A text that BAR parts, without heading. */
    static Tallow data(String text) {
        Tallow importer = bars(text);
        importer.tell(2, 0);
        return importer;
    }

    /** Rows of one cell each, of cells with a blank between; two quotes stand for an empty cell. */
    static Tallow column(String cells) {
        return data(cells.replace(' ', '\n'));
    }

    /** A row of so many cells. */
    static String row(int width, String cell) {
        return (cell + "|").repeat(width - 1) + cell;
    }
}
