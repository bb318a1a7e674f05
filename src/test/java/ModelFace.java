import java.util.Collections;
import java.util.HashSet;
import java.util.List;
import java.util.function.IntUnaryOperator;

/** The public face, answered by the model. */
final class ModelFace {
    final Model model = new Model();

    private static void check(boolean right, RuntimeException otherwise) {
        if (!right) {
            throw otherwise;
        }
    }

    private static void argument(boolean right) {
        check(right, new IllegalArgumentException());
    }

    private static void index(boolean right) {
        check(right, new IndexOutOfBoundsException());
    }

    private int append(String signs) {
        check(model.text.length() + signs.length() <= 500, new IllegalStateException());
        return model.text.append(signs).length();
    }

    int sign(int sign) {
        argument(sign >= 0 && sign < 46);
        return append(Check.SIGNS.substring(sign, sign + 1));
    }

    int digits(int n) {
        argument(n >= 0);
        return append(Integer.toString(n));
    }

    int letters(int letter, int many) {
        argument(letter >= 0 && letter < 26 && many >= 1 && many <= 12);
        return append("abcdefghijklmnopqrstuvwxyzabcdefghijklmnopqrstuvwxyz".substring(letter, letter + many));
    }

    int three(int a, int b, int c, int sign) {
        argument(a >= 0 && b >= 0 && c >= 0 && sign >= 0 && sign < 46);
        char between = Check.SIGNS.charAt(sign);
        return append("" + a + between + b + between + c);
    }

    int clear() {
        int before = model.text.length();
        model.text.setLength(0);
        return before;
    }

    int tell(int what, int n) {
        argument(what >= 0 && what <= 2);
        argument(n >= -1 && n <= (what == 0 ? 3 : 1));
        int before = model.told[what];
        model.told[what] = n;
        return before;
    }

    int setShare(int share) {
        argument(share >= 1 && share <= 100);
        int before = model.share;
        model.share = share;
        return before;
    }

    int setRule(int column, int rule) {
        index(column >= 0 && column < 20);
        argument(rule >= 0 && rule <= 3);
        int before = model.rules[column];
        model.rules[column] = rule;
        return before;
    }

    int used(int what) {
        argument(what >= 0 && what <= 2);
        return what == 0 ? model.parter() : what == 1 ? model.now().mark : model.now().heading;
    }

    int score(int parter) {
        argument(parter >= 0 && parter <= 3);
        return model.score(parter);
    }

    int many(int what) {
        argument(what >= 0 && what <= 6);
        Model.View now = model.now();
        int quoted = 0;
        for (int row = 0; row < now.rows.size(); row++) {
            quoted += (int) now.in(row).stream().filter(Model.Cell::quoted).count();
        }
        return List.of(model.text.length(), now.rows.size(), now.columns,
            now.rows.isEmpty() ? 0 : now.rows.size() - now.heading, now.faults.size(), now.kept.size(), quoted).get(what);
    }

    int width(int row) {
        Model.View now = model.now();
        index(row >= 0 && row < now.rows.size());
        return now.rows.get(row).size();
    }

    int cell(int row, int column, int what) {
        Model.View now = model.now();
        index(now.has(row, column));
        argument(what >= 0 && what <= 4);
        Model.Cell cell = now.rows.get(row).get(column);
        return List.of(now.kind(cell), now.value(cell), cell.signs().length(), cell.fault(), cell.quoted() ? 1 : 0).get(what);
    }

    int signAt(int row, int column, int place) {
        Model.View now = model.now();
        index(now.has(row, column));
        String signs = now.rows.get(row).get(column).signs();
        return place >= 0 && place < signs.length() ? Check.SIGNS.indexOf(signs.charAt(place)) : -1;
    }

    int column(int column, int what) {
        Model.View now = withColumn(column);
        argument(what >= 0 && what <= 4);
        List<String> filled = now.data(column).stream().map(Model.Cell::signs).filter(s -> !s.isEmpty()).toList();
        int faults = (int) now.faults.stream().filter(fault -> fault.column() == column).count();
        return List.of(now.columnKind(column), filled.size(), now.data(column).size() - filled.size(), faults,
            new HashSet<>(filled).size()).get(what);
    }

    private Model.View withColumn(int column) {
        Model.View now = model.now();
        index(column >= 0 && column < now.columns);
        return now;
    }

    int extreme(int column, int what) {
        List<Integer> values = withColumn(column).keptValues(column);
        argument(what == 0 || what == 1);
        return values.isEmpty() ? 0 : what == 0 ? Collections.min(values) : Collections.max(values);
    }

    long sum(int column) {
        return withColumn(column).keptValues(column).stream().mapToLong(value -> value).sum();
    }

    double mean(int column) {
        return withColumn(column).keptValues(column).stream().mapToInt(value -> value).average().orElse(0);
    }

    int fault(int fault, int what) {
        Model.View now = model.now();
        index(fault >= 0 && fault < now.faults.size());
        argument(what >= 0 && what <= 2);
        Model.Fault found = now.faults.get(fault);
        return what == 0 ? found.row() : what == 1 ? found.column() : found.code();
    }

    int kept(int place) {
        Model.View now = model.now();
        index(place >= 0 && place < now.kept.size());
        return now.kept.get(place);
    }

    int value(int place, int column) {
        Model.View now = withColumn(column);
        index(place >= 0 && place < now.kept.size());
        return now.keptValue(place, column);
    }

    int find(int column, int value) {
        Model.View now = withColumn(column);
        for (int place = 0; place < now.kept.size(); place++) {
            if (!now.keptCell(place, column).signs().isEmpty() && now.keptValue(place, column) == value) {
                return place;
            }
        }
        return -1;
    }

    int keptWith(int parter) {
        argument(parter >= 0 && parter <= 3);
        return model.view(parter).kept.size();
    }

    int kindWith(int column, int share) {
        Model.View now = withColumn(column);
        argument(share >= 1 && share <= 100);
        return now.kindWith(column, share);
    }

    long digest() {
        Model.View now = model.now();
        long d = mixed(mixed(58075, 3, this::used), 4, this::score);
        d = mixed(d, 7, this::many);
        for (int row = 0; row < now.rows.size(); row++) {
            int each = row;
            d = d * 31 + width(row);
            for (int column = 0; column < now.in(row).size(); column++) {
                int place = column;
                d = mixed(d, 5, what -> cell(each, place, what));
            }
        }
        for (int column = 0; column < now.columns; column++) {
            int each = column;
            d = mixed(mixed(d, 5, what -> column(each, what)), 2, what -> extreme(each, what)) * 31 + sum(column);
        }
        for (int fault = 0; fault < now.faults.size(); fault++) {
            int each = fault;
            d = mixed(d, 3, what -> fault(each, what));
        }
        return mixed(mixed(d, now.kept.size(), this::kept), 4, this::keptWith);
    }

    private static long mixed(long start, int many, IntUnaryOperator numbers) {
        long d = start;
        for (int i = 0; i < many; i++) {
            d = d * 31 + numbers.applyAsInt(i);
        }
        return d;
    }
}
