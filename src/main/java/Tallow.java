/** An importer of tables: a text is written sign by sign, and read as rows of cells. */
public final class Tallow {
    private static final int MOST_SIGNS = 500;
    private static final int MOST_CELLS = MOST_SIGNS + 1;
    private static final int MOST_ROWS = 60;
    private static final int MOST_COLUMNS = 20;
    private static final int MOST_FAULTS = MOST_ROWS + MOST_CELLS;
    private static final int MOST_LETTERS = 12;

    private static final int COMMA = 0;
    private static final int SEMICOLON = 1;
    private static final int TAB = 2;
    private static final int BAR = 3;
    private static final int QUOTE = 4;
    private static final int END = 5;
    private static final int SPACE = 6;
    private static final int POINT = 7;
    private static final int MINUS = 8;
    private static final int SLASH = 9;
    private static final int DIGIT_0 = 10;
    private static final int DIGIT_9 = 19;
    private static final int LETTER_A = 20;
    private static final int LETTER_N = 33;
    private static final int LETTER_Y = 44;
    private static final int LAST_SIGN = 45;
    private static final int LETTERS = 26;

    private static final int EMPTY = 0;
    private static final int WHOLE = 1;
    private static final int DECIMAL = 2;
    private static final int DATE = 3;
    private static final int FLAG = 4;
    private static final int WORDS = 5;
    private static final int KINDS = 6;

    private static final int PARTER = 0;
    private static final int MARK = 1;
    private static final int HEADING = 2;

    private static final int BEHIND_QUOTE = 1;
    private static final int QUOTE_OPEN = 2;
    private static final int OTHER_KIND = 3;
    private static final int TOO_NARROW = 4;
    private static final int TOO_WIDE = 5;
    private static final int NOT_FILLED = 6;
    private static final int REPEATED = 7;

    private static final int NONE = -1;
    private static final long DIGEST_START = 58075L;
    private static final long DIGEST_FACTOR = 31L;

    private final Text text = new Text();
    private final Told told = new Told();
    private final Table byComma = new Table(COMMA);
    private final Table bySemicolon = new Table(SEMICOLON);
    private final Table byTab = new Table(TAB);
    private final Table byBar = new Table(BAR);
    private boolean textIsRead = false;

    public Tallow() {
    }

    // ---- the text: each call tells how many SIGNS there are then

    public int sign(int sign) throws IllegalArgumentException, IllegalStateException {
        if (!isSign(sign)) {
            throw new IllegalArgumentException("a sign is 0 to 45");
        }
        if (!text.hasRoomFor(1)) {
            throw new IllegalStateException("the text is full");
        }
        text.write(sign);
        textIsRead = false;
        return text.count;
    }

    public int digits(int n) throws IllegalArgumentException, IllegalStateException {
        if (n < 0) {
            throw new IllegalArgumentException("a number is not less than 0");
        }
        if (!text.hasRoomFor(Text.digitsOf(n))) {
            throw new IllegalStateException("the text is full");
        }
        text.writeNumber(n);
        textIsRead = false;
        return text.count;
    }

    public int letters(int letter, int many) throws IllegalArgumentException, IllegalStateException {
        if (letter < 0 || letter >= LETTERS || many < 1 || many > MOST_LETTERS) {
            throw new IllegalArgumentException("a letter is 0 to 25, and 1 to 12 are written");
        }
        if (!text.hasRoomFor(many)) {
            throw new IllegalStateException("the text is full");
        }
        for (int i = 0; i < many; i++) {
            text.write(LETTER_A + (letter + i) % LETTERS);
        }
        textIsRead = false;
        return text.count;
    }

    public int three(int a, int b, int c, int sign) throws IllegalArgumentException, IllegalStateException {
        if (a < 0 || b < 0 || c < 0 || !isSign(sign)) {
            throw new IllegalArgumentException("a number is not less than 0, a sign is 0 to 45");
        }
        if (!text.hasRoomFor(Text.digitsOf(a) + Text.digitsOf(b) + Text.digitsOf(c) + 2)) {
            throw new IllegalStateException("the text is full");
        }
        text.writeNumber(a);
        text.write(sign);
        text.writeNumber(b);
        text.write(sign);
        text.writeNumber(c);
        textIsRead = false;
        return text.count;
    }

    public int clear() {
        int before = text.count;
        text.count = 0;
        textIsRead = false;
        return before;
    }

    // ---- what is told

    public int tell(int what, int n) throws IllegalArgumentException {
        if (what < PARTER || what > HEADING) {
            throw new IllegalArgumentException("what is told is 0 to 2");
        }
        if (n < NONE || n > (what == PARTER ? BAR : 1)) {
            throw new IllegalArgumentException("there is no such parter, mark or heading");
        }
        int before = told.choices.at(what);
        told.choices.put(what, n);
        unsettleAll();
        return before;
    }

    public int setShare(int share) throws IllegalArgumentException {
        if (!isShare(share)) {
            throw new IllegalArgumentException("a share is 1 to 100");
        }
        int before = told.share;
        told.share = share;
        unsettleAll();
        return before;
    }

    public int setRule(int column, int rule) throws IndexOutOfBoundsException, IllegalArgumentException {
        if (column < 0 || column >= MOST_COLUMNS) {
            throw new IndexOutOfBoundsException("a column is 0 to 19");
        }
        if (rule < 0 || rule > 3) {
            throw new IllegalArgumentException("a rule is 0 to 3");
        }
        int before = told.rules.at(column);
        told.rules.put(column, rule);
        unsettleAll();
        return before;
    }

    // ---- what is read

    public int used(int what) throws IllegalArgumentException {
        if (what < PARTER || what > HEADING) {
            throw new IllegalArgumentException("what is used is 0 to 2");
        }
        return tableNow().choice(what);
    }

    public int score(int parter) throws IllegalArgumentException {
        if (!isParter(parter)) {
            throw new IllegalArgumentException("a parter is 0 to 3");
        }
        readText();
        return tableWith(parter).reading.points();
    }

    public int many(int what) throws IllegalArgumentException {
        if (what < 0 || what > 6) {
            throw new IllegalArgumentException("what is counted is 0 to 6");
        }
        return what == 0 ? text.count : tableNow().howMany(what);
    }

    public int width(int row) throws IndexOutOfBoundsException {
        Reading reading = tableNow().reading;
        if (row < 0 || row >= reading.rowCount) {
            throw new IndexOutOfBoundsException("there is no such row");
        }
        return reading.widths.at(row);
    }

    public int cell(int row, int column, int what) throws IndexOutOfBoundsException, IllegalArgumentException {
        Table now = tableNow();
        int place = now.reading.cellAt(row, column);
        if (place == NONE) {
            throw new IndexOutOfBoundsException("there is no such cell");
        }
        if (what < 0 || what > 4) {
            throw new IllegalArgumentException("what is asked of a cell is 0 to 4");
        }
        return now.factOfCell(place, what);
    }

    public int signAt(int row, int column, int place) throws IndexOutOfBoundsException {
        Reading reading = tableNow().reading;
        int cell = reading.cellAt(row, column);
        if (cell == NONE) {
            throw new IndexOutOfBoundsException("there is no such cell");
        }
        if (place < 0 || place >= reading.lengths.at(cell)) {
            return NONE;
        }
        return reading.signs.at(reading.starts.at(cell) + place);
    }

    // ---- columns

    public int column(int column, int what) throws IndexOutOfBoundsException, IllegalArgumentException {
        Table now = tableNow();
        if (!now.hasColumn(column)) {
            throw new IndexOutOfBoundsException("there is no such column");
        }
        if (what < 0 || what > 4) {
            throw new IllegalArgumentException("what is asked of a column is 0 to 4");
        }
        return now.factOfColumn(column, what);
    }

    public int extreme(int column, int what) throws IndexOutOfBoundsException, IllegalArgumentException {
        Table now = tableNow();
        if (!now.hasColumn(column)) {
            throw new IndexOutOfBoundsException("there is no such column");
        }
        if (what != 0 && what != 1) {
            throw new IllegalArgumentException("an extreme is 0 or 1");
        }
        return now.extremeOf(column, what == 1);
    }

    public long sum(int column) throws IndexOutOfBoundsException {
        Table now = tableNow();
        if (!now.hasColumn(column)) {
            throw new IndexOutOfBoundsException("there is no such column");
        }
        return now.total(column);
    }

    public double mean(int column) throws IndexOutOfBoundsException {
        Table now = tableNow();
        if (!now.hasColumn(column)) {
            throw new IndexOutOfBoundsException("there is no such column");
        }
        int filled = now.filledInKept(column);
        return filled == 0 ? 0.0 : (double) now.total(column) / (double) filled;
    }

    // ---- faults, and what is kept

    public int fault(int fault, int what) throws IndexOutOfBoundsException, IllegalArgumentException {
        Faults faults = tableNow().faults;
        if (fault < 0 || fault >= faults.count) {
            throw new IndexOutOfBoundsException("there is no such fault");
        }
        if (what < 0 || what > 2) {
            throw new IllegalArgumentException("what is asked of a fault is 0 to 2");
        }
        return faults.fact(fault, what);
    }

    public int kept(int place) throws IndexOutOfBoundsException {
        Table now = tableNow();
        if (!now.hasKept(place)) {
            throw new IndexOutOfBoundsException("there is no such place");
        }
        return now.keptRows.at(place);
    }

    public int value(int place, int column) throws IndexOutOfBoundsException {
        Table now = tableNow();
        if (!now.hasKept(place) || !now.hasColumn(column)) {
            throw new IndexOutOfBoundsException("there is no such place or column");
        }
        return now.valueIn(place, column);
    }

    public int find(int column, int value) throws IndexOutOfBoundsException {
        Table now = tableNow();
        if (!now.hasColumn(column)) {
            throw new IndexOutOfBoundsException("there is no such column");
        }
        return now.placeOf(column, value);
    }

    // ---- what would be (nothing is changed)

    public int keptWith(int parter) throws IllegalArgumentException {
        if (!isParter(parter)) {
            throw new IllegalArgumentException("a parter is 0 to 3");
        }
        return settledWith(parter).keptCount;
    }

    public int kindWith(int column, int share) throws IndexOutOfBoundsException, IllegalArgumentException {
        Table now = tableNow();
        if (!now.hasColumn(column)) {
            throw new IndexOutOfBoundsException("there is no such column");
        }
        if (!isShare(share)) {
            throw new IllegalArgumentException("a share is 1 to 100");
        }
        now.tallyKinds(column, now.heading);
        return now.talliedKind(share);
    }

    public long digest() {
        Table now = tableNow();
        long d = DIGEST_START;
        for (int what = PARTER; what <= HEADING; what++) {
            d = mixed(d, now.choice(what));
        }
        for (int parter = COMMA; parter <= BAR; parter++) {
            d = mixed(d, tableWith(parter).reading.points());
        }
        d = mixed(d, text.count);
        for (int what = 1; what <= 6; what++) {
            d = mixed(d, now.howMany(what));
        }
        d = withRows(d, now);
        d = withColumns(d, now);
        d = withFaultsAndKept(d, now);
        for (int parter = COMMA; parter <= BAR; parter++) {
            d = mixed(d, settledWith(parter).keptCount);
        }
        return d;
    }

    private static long withRows(long start, Table now) {
        long d = start;
        for (int row = 0; row < now.reading.rowCount; row++) {
            d = mixed(d, now.reading.widths.at(row));
            for (int column = 0; column < now.reading.cellsIn(row); column++) {
                int place = now.reading.cellAt(row, column);
                for (int what = 0; what <= 4; what++) {
                    d = mixed(d, now.factOfCell(place, what));
                }
            }
        }
        return d;
    }

    private static long withColumns(long start, Table now) {
        long d = start;
        for (int column = 0; column < now.reading.columnCount(); column++) {
            for (int what = 0; what <= 4; what++) {
                d = mixed(d, now.factOfColumn(column, what));
            }
            d = mixed(d, now.extremeOf(column, false));
            d = mixed(d, now.extremeOf(column, true));
            d = mixed(d, now.total(column));
        }
        return d;
    }

    private static long withFaultsAndKept(long start, Table now) {
        long d = start;
        for (int fault = 0; fault < now.faults.count; fault++) {
            for (int what = 0; what <= 2; what++) {
                d = mixed(d, now.faults.fact(fault, what));
            }
        }
        for (int place = 0; place < now.keptCount; place++) {
            d = mixed(d, now.keptRows.at(place));
        }
        return d;
    }

    private static long mixed(long d, long x) {
        return d * DIGEST_FACTOR + x;
    }

    private static boolean isSign(int sign) {
        return sign >= 0 && sign <= LAST_SIGN;
    }

    private static boolean isParter(int parter) {
        return parter >= COMMA && parter <= BAR;
    }

    private static boolean isShare(int share) {
        return share >= 1 && share <= 100;
    }

    /** The table as it is read now: with the parter that is told or guessed. */
    private Table tableNow() {
        readText();
        int parter = told.choices.at(PARTER);
        Table table = tableWith(parter == NONE ? guessedParter() : parter);
        table.settle(told);
        return table;
    }

    private Table settledWith(int parter) {
        readText();
        Table table = tableWith(parter);
        table.settle(told);
        return table;
    }

    private Table tableWith(int parter) {
        switch (parter) {
            case COMMA:
                return byComma;
            case SEMICOLON:
                return bySemicolon;
            case TAB:
                return byTab;
            default:
                return byBar;
        }
    }

    /** Every guess of the parter needs all four readings, so they are made together. */
    private void readText() {
        if (textIsRead) {
            return;
        }
        byComma.reading.read(text, COMMA);
        bySemicolon.reading.read(text, SEMICOLON);
        byTab.reading.read(text, TAB);
        byBar.reading.read(text, BAR);
        textIsRead = true;
        unsettleAll();
    }

    private void unsettleAll() {
        byComma.settled = false;
        bySemicolon.settled = false;
        byTab.settled = false;
        byBar.settled = false;
    }

    private int guessedParter() {
        int best = COMMA;
        int most = byComma.reading.points();
        for (int parter = SEMICOLON; parter <= BAR; parter++) {
            int points = tableWith(parter).reading.points();
            if (points > most) {
                best = parter;
                most = points;
            }
        }
        return best;
    }

    /** A row of numbers that answers 0 outside itself and takes nothing there, so that no index is ever wrong. */
    private static final class Numbers {
        private final int[] held;

        Numbers(int length) {
            held = new int[length < 0 ? 0 : length];
        }

        int at(int place) {
            return place >= 0 && place < held.length ? held[place] : 0;
        }

        void put(int place, int number) {
            if (place >= 0 && place < held.length) {
                held[place] = number;
            }
        }
    }

    /** The signs that were written. */
    private static final class Text {
        private static final int MOST_DIGITS = 10;
        final Numbers signs = new Numbers(MOST_SIGNS);
        int count = 0;

        boolean hasRoomFor(int more) {
            return count + more <= MOST_SIGNS;
        }

        void write(int sign) {
            if (hasRoomFor(1)) {
                signs.put(count, sign);
                count++;
            }
        }

        void writeNumber(int n) {
            int length = digitsOf(n);
            if (hasRoomFor(length)) {
                int rest = n;
                for (int place = count + length - 1; place >= count; place--) {
                    signs.put(place, DIGIT_0 + rest % 10);
                    rest = rest / 10;
                }
                count = count + length;
            }
        }

        static int digitsOf(int n) {
            int length = 1;
            for (int rest = n / 10; rest > 0 && length < MOST_DIGITS; rest = rest / 10) {
                length++;
            }
            return length;
        }
    }

    /** What the caller told; a choice that is NONE is guessed. */
    private static final class Told {
        final Numbers choices = new Numbers(3);
        final Numbers rules = new Numbers(MOST_COLUMNS);
        int share = 80;

        Told() {
            choices.put(PARTER, NONE);
            choices.put(MARK, NONE);
            choices.put(HEADING, NONE);
        }

        boolean mustBeFilled(int column) {
            int rule = rules.at(column);
            return rule == 1 || rule == 3;
        }

        boolean mustDiffer(int column) {
            int rule = rules.at(column);
            return rule == 2 || rule == 3;
        }
    }

    /** The rows and cells of the text, as one parter parts them. */
    private static final class Reading {
        final Numbers signs = new Numbers(MOST_SIGNS);
        final Numbers starts = new Numbers(MOST_CELLS);
        final Numbers lengths = new Numbers(MOST_CELLS);
        final Numbers quoted = new Numbers(MOST_CELLS);
        final Numbers cellFaults = new Numbers(MOST_CELLS);
        final Numbers firstCells = new Numbers(MOST_ROWS);
        final Numbers widths = new Numbers(MOST_ROWS);
        private int signCount = 0;
        int cellCount = 0;
        int rowCount = 0;
        private int openWidth = 0;
        private int openFault = 0;
        int usualWidth = 0;
        int usualRows = 0;

        void read(Text text, int parter) {
            signCount = 0;
            cellCount = 0;
            rowCount = 0;
            openWidth = 0;
            int place = 0;
            for (int turn = 0; turn < MOST_CELLS && isMoreToRead(text, place); turn++) {
                int start = signCount;
                boolean isQuoted = place < text.count && text.signs.at(place) == QUOTE;
                place = isQuoted ? readQuoted(text, parter, place + 1) : readPlain(text, parter, place);
                closeCell(start, isQuoted);
                if (place >= text.count || text.signs.at(place) != parter) {
                    closeRow();
                }
                place++;
            }
            findUsualWidth();
        }

        /** A parter at the very end of the text still has an empty cell behind it: its row is open. */
        private boolean isMoreToRead(Text text, int place) {
            return rowCount < MOST_ROWS && (place < text.count || openWidth > 0);
        }

        /** Takes the signs of a cell that is not quoted; answers where it ends. */
        private int readPlain(Text text, int parter, int from) {
            int end = endOfCell(text, parter, from);
            int first = from;
            while (first < end && text.signs.at(first) == SPACE) {
                first++;
            }
            int last = end;
            while (last > first && text.signs.at(last - 1) == SPACE) {
                last--;
            }
            takeSigns(text, first, last);
            openFault = 0;
            return end;
        }

        /** Takes the signs of a cell from behind its first quote on; answers where it ends. */
        private int readQuoted(Text text, int parter, int from) {
            int place = from;
            boolean open = true;
            while (open && place < text.count) {
                boolean isQuote = text.signs.at(place) == QUOTE;
                boolean isDouble = isQuote && place + 1 < text.count && text.signs.at(place + 1) == QUOTE;
                open = !isQuote || isDouble;
                if (open) {
                    takeSigns(text, place, place + 1);
                }
                place += isDouble ? 2 : 1;
            }
            int end = endOfCell(text, parter, place);
            takeSigns(text, place, end);
            openFault = open ? QUOTE_OPEN : end > place ? BEHIND_QUOTE : 0;
            return end;
        }

        private int endOfCell(Text text, int parter, int from) {
            int place = from;
            while (place < text.count && text.signs.at(place) != parter && text.signs.at(place) != END) {
                place++;
            }
            return place;
        }

        private void takeSigns(Text text, int from, int to) {
            for (int place = from; place < to; place++) {
                signs.put(signCount, text.signs.at(place));
                signCount++;
            }
        }

        private void closeCell(int start, boolean isQuoted) {
            if (openWidth < MOST_COLUMNS) {
                starts.put(cellCount, start);
                lengths.put(cellCount, signCount - start);
                quoted.put(cellCount, isQuoted ? 1 : 0);
                cellFaults.put(cellCount, openFault);
                cellCount++;
            } else {
                signCount = start;
            }
            openWidth++;
        }

        private void closeRow() {
            int first = cellCount - Math.min(openWidth, MOST_COLUMNS);
            boolean isBlank = openWidth == 1 && quoted.at(first) == 0 && lengths.at(first) == 0;
            if (isBlank) {
                cellCount = first;
            } else {
                firstCells.put(rowCount, first);
                widths.put(rowCount, openWidth);
                rowCount++;
            }
            openWidth = 0;
        }

        private void findUsualWidth() {
            usualWidth = 0;
            usualRows = 0;
            for (int row = 0; row < rowCount; row++) {
                int rowWidth = widths.at(row);
                int rows = rowsOfWidth(rowWidth);
                if (rows > usualRows || (rows == usualRows && rowWidth > usualWidth)) {
                    usualWidth = rowWidth;
                    usualRows = rows;
                }
            }
        }

        private int rowsOfWidth(int rowWidth) {
            int rows = 0;
            for (int row = 0; row < rowCount; row++) {
                if (widths.at(row) == rowWidth) {
                    rows++;
                }
            }
            return rows;
        }

        int columnCount() {
            return Math.min(usualWidth, MOST_COLUMNS);
        }

        /** The score of the parter. */
        int points() {
            if (columnCount() < 2 || rowCount < 1) {
                return 0;
            }
            return 100 * usualRows / rowCount + columnCount();
        }

        int cellsIn(int row) {
            return Math.min(widths.at(row), MOST_COLUMNS);
        }

        int cellAt(int row, int column) {
            if (row < 0 || row >= rowCount || column < 0 || column >= cellsIn(row)) {
                return NONE;
            }
            return firstCells.at(row) + column;
        }

        boolean haveSameSigns(int one, int other) {
            int length = lengths.at(one);
            if (length != lengths.at(other)) {
                return false;
            }
            int first = starts.at(one);
            int second = starts.at(other);
            for (int i = 0; i < length; i++) {
                if (signs.at(first + i) != signs.at(second + i)) {
                    return false;
                }
            }
            return true;
        }

        int quotedCells() {
            int cells = 0;
            for (int cell = 0; cell < cellCount; cell++) {
                cells += quoted.at(cell);
            }
            return cells;
        }
    }

    /** What the signs from start to end (which is behind the last one) say. */
    private static final class Kinds {
        private static final int MOST_DIGITS = 6;
        private static final int MOST_DECIMALS = 3;
        private static final int FIRST_YEAR = 1900;
        private static final int LAST_YEAR = 2099;
        private static final int FEBRUARY = 2;
        /** How many days of a common year are ahead of each month, and of the next year. */
        private static final int[] DAYS_AHEAD = {0, 31, 59, 90, 120, 151, 181, 212, 243, 273, 304, 334, 365};

        static boolean isWhole(Numbers signs, int start, int end) {
            int first = behindMinus(signs, start, end);
            int length = digitsFrom(signs, first, end);
            return length >= 1 && length <= MOST_DIGITS && first + length == end;
        }

        static boolean isDecimal(Numbers signs, int start, int end, int markSign) {
            int first = behindMinus(signs, start, end);
            int whole = digitsFrom(signs, first, end);
            int place = first + whole;
            if (whole < 1 || whole > MOST_DIGITS || place >= end || signs.at(place) != markSign) {
                return false;
            }
            int decimals = digitsFrom(signs, place + 1, end);
            return decimals >= 1 && decimals <= MOST_DECIMALS && place + 1 + decimals == end;
        }

        static boolean isFlag(Numbers signs, int start, int end) {
            return end - start == 1 && (signs.at(start) == LETTER_Y || signs.at(start) == LETTER_N);
        }

        static int wholeNumber(Numbers signs, int start, int end) {
            int number = number(signs, behindMinus(signs, start, end), end);
            return signs.at(start) == MINUS ? -number : number;
        }

        static int thousandths(Numbers signs, int start, int end) {
            int first = behindMinus(signs, start, end);
            int place = first + digitsFrom(signs, first, end);
            int number = number(signs, first, place) * 1000;
            int worth = 100;
            for (int decimal = place + 1; decimal < end; decimal++) {
                number += (signs.at(decimal) - DIGIT_0) * worth;
                worth = worth / 10;
            }
            return signs.at(start) == MINUS ? -number : number;
        }

        /** How many days the date is behind the first of 1900; NONE if this is no date. */
        static int dayNumber(Numbers signs, int start, int end) {
            int dayEnd = start + digitsFrom(signs, start, end);
            int monthEnd = dayEnd + 1 + digitsFrom(signs, dayEnd + 1, end);
            int yearEnd = monthEnd + 1 + digitsFrom(signs, monthEnd + 1, end);
            boolean hasForm = isOneOrTwo(dayEnd - start) && isOneOrTwo(monthEnd - dayEnd - 1)
                && yearEnd - monthEnd - 1 == 4 && yearEnd == end
                && signs.at(dayEnd) == SLASH && signs.at(monthEnd) == SLASH;
            if (!hasForm) {
                return NONE;
            }
            int day = number(signs, start, dayEnd);
            int month = number(signs, dayEnd + 1, monthEnd);
            int year = number(signs, monthEnd + 1, yearEnd);
            if (year < FIRST_YEAR || year > LAST_YEAR || day < 1 || day > daysIn(month, year)) {
                return NONE;
            }
            return daysAheadOfYear(year) + daysAheadOfMonth(month, year) + day - 1;
        }

        private static boolean isOneOrTwo(int n) {
            return n == 1 || n == 2;
        }

        private static int behindMinus(Numbers signs, int start, int end) {
            return start < end && signs.at(start) == MINUS ? start + 1 : start;
        }

        /** How many digits stand one behind the other from a place on. */
        private static int digitsFrom(Numbers signs, int from, int end) {
            int place = from;
            while (place < end && signs.at(place) >= DIGIT_0 && signs.at(place) <= DIGIT_9) {
                place++;
            }
            return place - from;
        }

        private static int number(Numbers signs, int from, int to) {
            int number = 0;
            for (int place = from; place < to; place++) {
                number = number * 10 + signs.at(place) - DIGIT_0;
            }
            return number;
        }

        /** How many days a month has; 0 if there is no such month. */
        private static int daysIn(int month, int year) {
            if (month < 1 || month >= DAYS_AHEAD.length) {
                return 0;
            }
            int days = DAYS_AHEAD[month] - DAYS_AHEAD[month - 1];
            return month == FEBRUARY && isLeap(year) ? days + 1 : days;
        }

        private static int daysAheadOfMonth(int month, int year) {
            if (month < 1 || month >= DAYS_AHEAD.length) {
                return 0;
            }
            int days = DAYS_AHEAD[month - 1];
            return month > FEBRUARY && isLeap(year) ? days + 1 : days;
        }

        private static int daysAheadOfYear(int year) {
            return 365 * (year - FIRST_YEAR) + leapYearsTo(year - 1) - leapYearsTo(FIRST_YEAR - 1);
        }

        private static int leapYearsTo(int year) {
            return year / 4 - year / 100 + year / 400;
        }

        private static boolean isLeap(int year) {
            return year % 4 == 0 && (year % 100 != 0 || year % 400 == 0);
        }
    }

    /** The faults, in their order. */
    private static final class Faults {
        private final Numbers rows = new Numbers(MOST_FAULTS);
        private final Numbers columns = new Numbers(MOST_FAULTS);
        private final Numbers codes = new Numbers(MOST_FAULTS);
        int count = 0;

        void add(int row, int column, int code) {
            if (count < MOST_FAULTS) {
                rows.put(count, row);
                columns.put(count, column);
                codes.put(count, code);
                count++;
            }
        }

        int fact(int fault, int what) {
            switch (what) {
                case 0:
                    return rows.at(fault);
                case 1:
                    return columns.at(fault);
                default:
                    return codes.at(fault);
            }
        }

        int inColumn(int column) {
            int found = 0;
            for (int fault = 0; fault < count; fault++) {
                if (columns.at(fault) == column) {
                    found++;
                }
            }
            return found;
        }
    }

    /** A reading with all that follows from it and from what is told. */
    private static final class Table {
        final Reading reading = new Reading();
        final Faults faults = new Faults();
        final Numbers keptRows = new Numbers(MOST_ROWS);
        private final Numbers kinds = new Numbers(MOST_CELLS);
        private final Numbers values = new Numbers(MOST_CELLS);
        private final Numbers repeats = new Numbers(MOST_CELLS);
        private final Numbers columnKinds = new Numbers(MOST_COLUMNS);
        private final Numbers tally = new Numbers(KINDS);
        private final int parter;
        private int mark = 0;
        int heading = 0;
        int keptCount = 0;
        boolean settled = false;

        Table(int parter) {
            this.parter = parter;
        }

        void settle(Told told) {
            if (settled) {
                return;
            }
            mark = told.choices.at(MARK) == NONE ? guessedMark() : told.choices.at(MARK);
            for (int cell = 0; cell < reading.cellCount; cell++) {
                nameCell(cell);
            }
            heading = told.choices.at(HEADING) == NONE ? guessedHeading(told.share) : told.choices.at(HEADING);
            for (int column = 0; column < reading.columnCount(); column++) {
                tallyKinds(column, heading);
                columnKinds.put(column, talliedKind(told.share));
                markRepeats(column);
            }
            faults.count = 0;
            keptCount = 0;
            for (int row = heading; row < reading.rowCount; row++) {
                int before = faults.count;
                findFaults(told, row);
                if (faults.count == before) {
                    keepOnce(row);
                }
            }
            settled = true;
        }

        private int guessedMark() {
            int points = 0;
            int commas = 0;
            for (int cell = 0; cell < reading.cellCount; cell++) {
                int start = reading.starts.at(cell);
                int end = start + reading.lengths.at(cell);
                if (Kinds.isDecimal(reading.signs, start, end, POINT)) {
                    points++;
                }
                if (Kinds.isDecimal(reading.signs, start, end, COMMA)) {
                    commas++;
                }
            }
            return commas > points ? 1 : 0;
        }

        /** Finds the kind and the value of a cell. */
        private void nameCell(int cell) {
            Numbers signs = reading.signs;
            int start = reading.starts.at(cell);
            int worth = reading.lengths.at(cell);
            int end = start + worth;
            int day = Kinds.dayNumber(signs, start, end);
            int kind = WORDS;
            if (start == end) {
                kind = EMPTY;
            } else if (Kinds.isWhole(signs, start, end)) {
                kind = WHOLE;
                worth = Kinds.wholeNumber(signs, start, end);
            } else if (Kinds.isDecimal(signs, start, end, mark == 0 ? POINT : COMMA)) {
                kind = DECIMAL;
                worth = Kinds.thousandths(signs, start, end);
            } else if (day != NONE) {
                kind = DATE;
                worth = day;
            } else if (Kinds.isFlag(signs, start, end)) {
                kind = FLAG;
                worth = signs.at(start) == LETTER_Y ? 1 : 0;
            }
            kinds.put(cell, kind);
            values.put(cell, worth);
        }

        private int guessedHeading(int share) {
            if (reading.rowCount < 2 || reading.widths.at(0) != reading.usualWidth) {
                return 0;
            }
            for (int column = 0; column < reading.cellsIn(0); column++) {
                if (kinds.at(reading.cellAt(0, column)) != WORDS) {
                    return 0;
                }
            }
            for (int column = 0; column < reading.columnCount(); column++) {
                tallyKinds(column, 1);
                int kind = talliedKind(share);
                if (kind != WORDS && kind != EMPTY) {
                    return 1;
                }
            }
            return 0;
        }

        /** Counts the cells of a column, from a row on, by their kinds. */
        void tallyKinds(int column, int firstRow) {
            for (int kind = EMPTY; kind < KINDS; kind++) {
                tally.put(kind, 0);
            }
            for (int row = firstRow; row < reading.rowCount; row++) {
                int cell = reading.cellAt(row, column);
                if (cell != NONE) {
                    int kind = kinds.at(cell);
                    tally.put(kind, tally.at(kind) + 1);
                }
            }
        }

        private int talliedFilled() {
            int filled = 0;
            for (int kind = WHOLE; kind < KINDS; kind++) {
                filled += tally.at(kind);
            }
            return filled;
        }

        /** The kind that the tallied cells have together. */
        int talliedKind(int share) {
            int filled = talliedFilled();
            if (filled == 0) {
                return EMPTY;
            }
            int best = WHOLE;
            int most = tally.at(WHOLE);
            for (int kind = DECIMAL; kind <= FLAG; kind++) {
                int cells = tally.at(kind);
                if (kind == DECIMAL && cells > 0) {
                    cells += tally.at(WHOLE);
                }
                if (cells > most) {
                    best = kind;
                    most = cells;
                }
            }
            return most * 100 >= share * filled ? best : WORDS;
        }

        /** Marks the cells of a column in data that have the same signs as one ahead of them. */
        private void markRepeats(int column) {
            for (int row = heading; row < reading.rowCount; row++) {
                int cell = reading.cellAt(row, column);
                if (cell != NONE) {
                    repeats.put(cell, kinds.at(cell) != EMPTY && isAhead(row, column, cell) ? 1 : 0);
                }
            }
        }

        private boolean isAhead(int row, int column, int cell) {
            for (int ahead = heading; ahead < row; ahead++) {
                int other = reading.cellAt(ahead, column);
                if (other != NONE && reading.haveSameSigns(other, cell)) {
                    return true;
                }
            }
            return false;
        }

        private void findFaults(Told told, int row) {
            int rowWidth = reading.widths.at(row);
            if (rowWidth != reading.usualWidth) {
                faults.add(row, NONE, rowWidth < reading.usualWidth ? TOO_NARROW : TOO_WIDE);
            }
            for (int column = 0; column < reading.columnCount(); column++) {
                int cell = reading.cellAt(row, column);
                int code = cell == NONE ? 0 : faultOfCell(told, column, cell);
                if (code != 0) {
                    faults.add(row, column, code);
                }
            }
        }

        private int faultOfCell(Told told, int column, int cell) {
            if (reading.cellFaults.at(cell) != 0) {
                return reading.cellFaults.at(cell);
            }
            if (!isOfKind(cell, columnKinds.at(column))) {
                return OTHER_KIND;
            }
            if (kinds.at(cell) == EMPTY && told.mustBeFilled(column)) {
                return NOT_FILLED;
            }
            return repeats.at(cell) == 1 && told.mustDiffer(column) ? REPEATED : 0;
        }

        private boolean isOfKind(int cell, int kind) {
            int own = kinds.at(cell);
            return own == kind || own == EMPTY || kind == WORDS || (own == WHOLE && kind == DECIMAL);
        }

        /** Keeps a row without faults, if no row with the same signs is kept yet. */
        private void keepOnce(int row) {
            for (int place = 0; place < keptCount; place++) {
                if (isSameRow(keptRows.at(place), row)) {
                    return;
                }
            }
            keptRows.put(keptCount, row);
            keptCount++;
        }

        /** Both rows have the usual width, as rows without faults have. */
        private boolean isSameRow(int one, int other) {
            for (int column = 0; column < reading.columnCount(); column++) {
                if (!reading.haveSameSigns(reading.cellAt(one, column), reading.cellAt(other, column))) {
                    return false;
                }
            }
            return true;
        }

        boolean hasColumn(int column) {
            return column >= 0 && column < reading.columnCount();
        }

        boolean hasKept(int place) {
            return place >= 0 && place < keptCount;
        }

        int choice(int what) {
            switch (what) {
                case PARTER:
                    return parter;
                case MARK:
                    return mark;
                default:
                    return heading;
            }
        }

        /** All counts of the promise many but that of the signs, which the text has. */
        int howMany(int what) {
            switch (what) {
                case 1:
                    return reading.rowCount;
                case 2:
                    return reading.columnCount();
                case 3:
                    return Math.max(0, reading.rowCount - heading);
                case 4:
                    return faults.count;
                case 5:
                    return keptCount;
                default:
                    return reading.quotedCells();
            }
        }

        int factOfCell(int cell, int what) {
            switch (what) {
                case 0:
                    return kinds.at(cell);
                case 1:
                    return values.at(cell);
                case 2:
                    return reading.lengths.at(cell);
                case 3:
                    return reading.cellFaults.at(cell);
                default:
                    return reading.quoted.at(cell);
            }
        }

        int factOfColumn(int column, int what) {
            switch (what) {
                case 0:
                    return columnKinds.at(column);
                case 1:
                    tallyKinds(column, heading);
                    return talliedFilled();
                case 2:
                    tallyKinds(column, heading);
                    return tally.at(EMPTY);
                case 3:
                    return faults.inColumn(column);
                default:
                    tallyKinds(column, heading);
                    return talliedFilled() - repeatsIn(column);
            }
        }

        private int repeatsIn(int column) {
            int found = 0;
            for (int row = heading; row < reading.rowCount; row++) {
                int cell = reading.cellAt(row, column);
                found += cell == NONE ? 0 : repeats.at(cell);
            }
            return found;
        }

        private int cellOfKept(int place, int column) {
            return reading.cellAt(keptRows.at(place), column);
        }

        /** The value in a kept row, as the kind of the column has it. */
        int valueIn(int place, int column) {
            int cell = cellOfKept(place, column);
            int columnKind = columnKinds.at(column);
            if (columnKind == WORDS) {
                return reading.lengths.at(cell);
            }
            boolean isScaled = columnKind == DECIMAL && kinds.at(cell) == WHOLE;
            return isScaled ? 1000 * values.at(cell) : values.at(cell);
        }

        private boolean isFilledIn(int place, int column) {
            return kinds.at(cellOfKept(place, column)) != EMPTY;
        }

        int extremeOf(int column, boolean greatest) {
            boolean isAny = false;
            int extreme = 0;
            for (int place = 0; place < keptCount; place++) {
                if (isFilledIn(place, column)) {
                    int found = valueIn(place, column);
                    boolean isFurther = greatest ? found > extreme : found < extreme;
                    extreme = !isAny || isFurther ? found : extreme;
                    isAny = true;
                }
            }
            return extreme;
        }

        long total(int column) {
            long total = 0L;
            for (int place = 0; place < keptCount; place++) {
                total += valueIn(place, column);
            }
            return total;
        }

        int filledInKept(int column) {
            int filled = 0;
            for (int place = 0; place < keptCount; place++) {
                filled += isFilledIn(place, column) ? 1 : 0;
            }
            return filled;
        }

        int placeOf(int column, int value) {
            for (int place = 0; place < keptCount; place++) {
                if (isFilledIn(place, column) && valueIn(place, column) == value) {
                    return place;
                }
            }
            return NONE;
        }
    }
}
