import java.time.DateTimeException;
import java.time.LocalDate;
import java.time.temporal.ChronoUnit;
import java.util.ArrayList;
import java.util.Arrays;
import java.util.Collections;
import java.util.HashSet;
import java.util.List;
import java.util.Map;
import java.util.Set;
import java.util.TreeMap;
import java.util.regex.Matcher;
import java.util.regex.Pattern;

/** The document once more, written in another way: with the Java library, and all found anew for each change. */
final class Model {
    private static final Pattern DATE = Pattern.compile("([0-9]{1,2})/([0-9]{1,2})/([0-9]{4})");

    final StringBuilder text = new StringBuilder();
    final int[] told = {-1, -1, -1};
    final int[] rules = new int[20];
    int share = 80;
    private final Map<Integer, View> views = new TreeMap<>();
    private String seen = "";

    /** A cell as it is read. */
    record Cell(String signs, boolean quoted, int fault) {
    }

    /** A fault that is told. */
    record Fault(int row, int column, int code) {
    }

    int parter() {
        if (told[0] >= 0) {
            return told[0];
        }
        int best = 0;
        for (int parter = 1; parter < 4; parter++) {
            if (score(parter) > score(best)) {
                best = parter;
            }
        }
        return best;
    }

    int score(int parter) {
        View view = view(parter);
        return view.columns < 2 ? 0 : 100 * view.rowsOfUsualWidth() / view.rows.size() + view.columns;
    }

    View now() {
        return view(parter());
    }

    View view(int parter) {
        String state = text + Arrays.toString(told) + share + Arrays.toString(rules);
        if (!state.equals(seen)) {
            views.clear();
            seen = state;
        }
        return views.computeIfAbsent(parter, View::new);
    }

    /** All that follows with one parter. */
    final class View {
        final List<List<Cell>> rows = new ArrayList<>();
        final List<Fault> faults = new ArrayList<>();
        final List<Integer> kept = new ArrayList<>();
        final int usual;
        final int columns;
        final int mark;
        final int heading;

        View(int parter) {
            read(Check.SIGNS.charAt(parter));
            usual = usualWidth();
            columns = Math.min(20, usual);
            mark = told[1] >= 0 ? told[1] : decimals(',') > decimals('.') ? 1 : 0;
            heading = told[2] >= 0 ? told[2] : guessedHeading();
            judge();
        }

        /** Splits the text into raw cells with what ends each, then looks into each of them. */
        private void read(char parter) {
            List<Cell> row = new ArrayList<>();
            String rest = text.toString();
            boolean open = false;
            while ((open || !rest.isEmpty()) && rows.size() < 60) {
                int end = rawEnd(rest, parter);
                row.add(cellOf(rest.substring(0, end)));
                open = end < rest.length() && rest.charAt(end) == parter;
                rest = end < rest.length() ? rest.substring(end + 1) : "";
                if (!open) {
                    Cell first = row.get(0);
                    if (row.size() > 1 || first.quoted || !first.signs.isEmpty()) {
                        rows.add(row);
                    }
                    row = new ArrayList<>();
                }
            }
        }

        private int rawEnd(String rest, char parter) {
            int from = 0;
            if (rest.startsWith("\"")) {
                Matcher inQuotes = Pattern.compile("\"(?:[^\"]|\"\")*+\"?").matcher(rest);
                inQuotes.lookingAt();
                from = inQuotes.end();
            }
            for (int i = from; i < rest.length(); i++) {
                if (rest.charAt(i) == parter || rest.charAt(i) == '\n') {
                    return i;
                }
            }
            return rest.length();
        }

        private Cell cellOf(String raw) {
            Matcher plain = Pattern.compile("(?!\") *(.*?) *", Pattern.DOTALL).matcher(raw);
            if (plain.matches()) {
                return new Cell(plain.group(1), false, 0);
            }
            Matcher closed = Pattern.compile("\"((?:[^\"]|\"\")*+)\"(.*)", Pattern.DOTALL).matcher(raw);
            if (closed.matches()) {
                String behind = closed.group(2);
                return new Cell(closed.group(1).replace("\"\"", "\"") + behind, true, behind.isEmpty() ? 0 : 1);
            }
            return new Cell(raw.substring(1).replace("\"\"", "\""), true, 2);
        }

        private int usualWidth() {
            Map<Integer, Integer> many = new TreeMap<>();
            rows.forEach(row -> many.merge(row.size(), 1, Integer::sum));
            int best = 0;
            for (int width : many.keySet()) {
                best = best == 0 || many.get(width) >= many.get(best) ? width : best;
            }
            return best;
        }

        int rowsOfUsualWidth() {
            return (int) rows.stream().filter(row -> row.size() == usual).count();
        }

        List<Cell> in(int row) {
            List<Cell> cells = rows.get(row);
            return cells.subList(0, Math.min(20, cells.size()));
        }

        boolean has(int row, int column) {
            return row >= 0 && row < rows.size() && column >= 0 && column < in(row).size();
        }

        private boolean isDecimal(String signs, char point) {
            return signs.matches("-?[0-9]{1,6}[" + point + "][0-9]{1,3}");
        }

        private int decimals(char point) {
            int found = 0;
            for (int row = 0; row < rows.size(); row++) {
                for (Cell cell : in(row)) {
                    found += isDecimal(cell.signs, point) ? 1 : 0;
                }
            }
            return found;
        }

        int kind(Cell cell) {
            String signs = cell.signs;
            return signs.isEmpty() ? 0
                : signs.matches("-?[0-9]{1,6}") ? 1
                : isDecimal(signs, mark == 0 ? '.' : ',') ? 2
                : days(signs) >= 0 ? 3
                : signs.matches("[yn]") ? 4 : 5;
        }

        private int days(String signs) {
            Matcher matcher = DATE.matcher(signs);
            if (!matcher.matches()) {
                return -1;
            }
            int year = Integer.parseInt(matcher.group(3));
            try {
                LocalDate date = LocalDate.of(year, Integer.parseInt(matcher.group(2)),
                    Integer.parseInt(matcher.group(1)));
                return year < 1900 || year > 2099 ? -1
                    : (int) ChronoUnit.DAYS.between(LocalDate.of(1900, 1, 1), date);
            } catch (DateTimeException e) {
                return -1;
            }
        }

        int value(Cell cell) {
            switch (kind(cell)) {
                case 0:
                    return 0;
                case 1:
                    return Integer.parseInt(cell.signs);
                case 2:
                    return new java.math.BigDecimal(cell.signs.replace(',', '.')).movePointRight(3).intValueExact();
                case 3:
                    return days(cell.signs);
                case 4:
                    return cell.signs.equals("y") ? 1 : 0;
                default:
                    return cell.signs.length();
            }
        }

        private List<Cell> columnFrom(int firstRow, int column) {
            List<Cell> cells = new ArrayList<>();
            for (int row = firstRow; row < rows.size(); row++) {
                if (has(row, column)) {
                    cells.add(rows.get(row).get(column));
                }
            }
            return cells;
        }

        private int together(List<Cell> cells, int percents) {
            List<Integer> kinds = new ArrayList<>();
            cells.forEach(cell -> kinds.add(kind(cell)));
            kinds.removeIf(kind -> kind == 0);
            if (kinds.isEmpty()) {
                return 0;
            }
            int[] many = new int[5];
            for (int kind = 1; kind <= 4; kind++) {
                many[kind] = Collections.frequency(kinds, kind);
            }
            many[2] += many[2] > 0 ? many[1] : 0;
            int best = 4;
            for (int kind = 3; kind >= 1; kind--) {
                best = many[kind] >= many[best] ? kind : best;
            }
            return many[best] / (double) kinds.size() >= percents / 100.0 - 1e-9 ? best : 5;
        }

        private int guessedHeading() {
            if (rows.size() < 2 || rows.get(0).size() != usual || in(0).stream().anyMatch(cell -> kind(cell) != 5)) {
                return 0;
            }
            for (int column = 0; column < columns; column++) {
                int kind = together(columnFrom(1, column), share);
                if (kind >= 1 && kind <= 4) {
                    return 1;
                }
            }
            return 0;
        }

        List<Cell> data(int column) {
            return columnFrom(heading, column);
        }

        int columnKind(int column) {
            return together(data(column), share);
        }

        int kindWith(int column, int percents) {
            return together(data(column), percents);
        }

        private void judge() {
            List<Set<String>> ahead = new ArrayList<>();
            int[] kinds = new int[columns];
            for (int column = 0; column < columns; column++) {
                ahead.add(new HashSet<>());
                kinds[column] = columnKind(column);
            }
            Set<List<String>> keptSigns = new HashSet<>();
            for (int row = heading; row < rows.size(); row++) {
                List<Fault> found = new ArrayList<>();
                int width = rows.get(row).size();
                if (width != usual) {
                    found.add(new Fault(row, -1, width < usual ? 4 : 5));
                }
                for (int column = 0; column < Math.min(columns, width); column++) {
                    Cell cell = rows.get(row).get(column);
                    int code = code(cell, kinds[column], rules[column], ahead.get(column));
                    if (code > 0) {
                        found.add(new Fault(row, column, code));
                    }
                    ahead.get(column).add(cell.signs);
                }
                faults.addAll(found);
                if (found.isEmpty() && keptSigns.add(in(row).stream().map(Cell::signs).toList())) {
                    kept.add(row);
                }
            }
        }

        private int code(Cell cell, int columnKind, int rule, Set<String> ahead) {
            int kind = kind(cell);
            boolean fits = kind == columnKind || kind == 0 || columnKind == 5 || kind == 1 && columnKind == 2;
            return cell.fault > 0 ? cell.fault
                : !fits ? 3
                : kind == 0 ? (rule % 2 == 1 ? 6 : 0)
                : rule >= 2 && ahead.contains(cell.signs) ? 7 : 0;
        }

        Cell keptCell(int place, int column) {
            return rows.get(kept.get(place)).get(column);
        }

        int keptValue(int place, int column) {
            Cell cell = keptCell(place, column);
            int columnKind = columnKind(column);
            return columnKind == 5 ? cell.signs.length()
                : value(cell) * (columnKind == 2 && kind(cell) == 1 ? 1000 : 1);
        }

        /** The values of the cells of kept rows that are not empty. */
        List<Integer> keptValues(int column) {
            List<Integer> values = new ArrayList<>();
            for (int place = 0; place < kept.size(); place++) {
                if (!keptCell(place, column).signs.isEmpty()) {
                    values.add(keptValue(place, column));
                }
            }
            return values;
        }
    }
}
