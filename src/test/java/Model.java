import java.util.ArrayDeque;
import java.util.ArrayList;
import java.util.Comparator;
import java.util.Deque;
import java.util.HashSet;
import java.util.List;
import java.util.Set;
import java.util.function.Predicate;
import java.util.regex.Matcher;
import java.util.regex.Pattern;
import java.util.stream.Collectors;
import java.util.stream.IntStream;

/** The document once more, written with the whole Java library and with copies of the state wherever they help. */
final class Model {
    private static final int NONE = -999999;
    private static final String ORDER = "(?:t[0-3],[1-9](?:\\*[1-5])?|h-?(?:[1-4][0-9]|50|[0-9])|p[0-3]/[1-6]|c[0-9])";
    private static final Pattern TEXT = Pattern.compile(ORDER + "(?:;" + ORDER + ")*");

    private static final class T {
        int row;
        int lag;
        int offset;
        int weight;
        int shows;
        int strikes;
        int spikes;
        boolean out;
        List<int[]> readings = new ArrayList<>();

        T copy() {
            T t = new T();
            t.row = row;
            t.lag = lag;
            t.offset = offset;
            t.weight = weight;
            t.shows = shows;
            t.strikes = strikes;
            t.spikes = spikes;
            t.out = out;
            t.readings.addAll(readings);
            return t;
        }

        int[] ago(int n) {
            return n < readings.size() ? readings.get(readings.size() - 1 - n) : null;
        }

        int mended(int withLag) {
            if (readings.isEmpty()) {
                return NONE;
            }
            if (readings.size() == 1) {
                return ago(0)[1] - offset;
            }
            long v = ago(0)[1];
            long u = ago(1)[1];
            long n = ago(0)[0] - ago(1)[0];
            return (int) (v + (v - u) * (withLag - 1) / n - offset);
        }

        int mended() {
            return mended(lag);
        }

        boolean asked() {
            return !readings.isEmpty() && !out;
        }
    }

    private static final class S {
        int hour = 0;
        int truth = 1000;
        List<T> all = new ArrayList<>();
        int[] periods = {1, 1, 1, 1};
        int[] rowReads = {0, 0, 0, 0};
        int readings = 0;
        int spikes = 0;
        int[] settings = {300, 2};
        Integer meanBefore = null;

        S copy() {
            S s = new S();
            s.hour = hour;
            s.truth = truth;
            for (T t : all) {
                s.all.add(t.copy());
            }
            s.periods = periods.clone();
            s.rowReads = rowReads.clone();
            s.readings = readings;
            s.spikes = spikes;
            s.settings = settings.clone();
            s.meanBefore = meanBefore;
            return s;
        }

        List<T> asked() {
            return all.stream().filter(T::asked).collect(Collectors.toList());
        }

        List<T> mendedOnes() {
            return all.stream().filter(t -> !t.readings.isEmpty()).collect(Collectors.toList());
        }

        Integer mean() {
            List<T> asked = asked();
            if (asked.isEmpty()) {
                return null;
            }
            long sum = asked.stream().mapToLong(t -> (long) t.mended() * t.weight).sum();
            long weights = asked.stream().mapToLong(t -> t.weight).sum();
            return (int) (sum / weights);
        }

        static int middle(List<T> some) {
            int[] sorted = some.stream().mapToInt(T::mended).sorted().toArray();
            return sorted[(sorted.length - 1) / 2];
        }

        int pass(int truthNow) {
            meanBefore = mean();
            hour = hour + 1;
            truth = truthNow;
            for (T t : all) {
                t.shows += (truth + t.offset - t.shows) / t.lag;
            }
            Set<T> got = new HashSet<>();
            boolean anyRow = false;
            for (int row = 0; row < 4; row++) {
                if (hour % periods[row] != 0) {
                    continue;
                }
                anyRow = true;
                rowReads[row]++;
                for (T t : all) {
                    if (t.row == row) {
                        t.readings.add(new int[] {hour, t.shows});
                        if (t.readings.size() > 6) {
                            t.readings.remove(0);
                        }
                        readings++;
                        got.add(t);
                    }
                }
            }
            if (anyRow) {
                spikesAmong(got);
            }
            return got.size();
        }

        private void spikesAmong(Set<T> got) {
            List<T> asked = asked();
            List<T> compared = new ArrayList<>();
            for (T t : asked) {
                List<T> others = new ArrayList<>(asked);
                others.remove(t);
                if (!got.contains(t) || others.isEmpty()) {
                    continue;
                }
                compared.add(t);
                if (Math.abs((long) t.mended() - middle(others)) > settings[0]) {
                    t.spikes++;
                    t.strikes++;
                    spikes++;
                } else {
                    t.strikes = 0;
                }
            }
            for (T t : compared) {
                if (t.strikes >= settings[1]) {
                    t.out = true;
                }
            }
        }

        int mask(Predicate<T> which) {
            return IntStream.range(0, all.size()).filter(i -> which.test(all.get(i))).map(i -> 1 << i).sum();
        }
    }

    private S s = new S();
    private final Deque<S> saved = new ArrayDeque<>();
    private final S[] slots = new S[2];
    private String buffer = "";

    private void save(S before) {
        saved.addLast(before);
        if (saved.size() > 6) {
            saved.removeFirst();
        }
    }

    private static void argument(boolean fine) {
        if (!fine) {
            throw new IllegalArgumentException();
        }
    }

    private static void index(boolean fine) {
        if (!fine) {
            throw new IndexOutOfBoundsException();
        }
    }

    private static void state(boolean fine) {
        if (!fine) {
            throw new IllegalStateException();
        }
    }

    private static boolean in(long number, long least, long most) {
        return least <= number && number <= most;
    }

    private T get(int thermometer) {
        index(in(thermometer, 0, s.all.size() - 1));
        return s.all.get(thermometer);
    }

    public int thermometer(int row, int lag, int offset, int weight) {
        index(in(row, 0, 3));
        argument(in(lag, 1, 9) && in(offset, -200, 200) && in(weight, 1, 5));
        state(s.all.size() < 10);
        save(s.copy());
        T t = new T();
        t.row = row;
        t.lag = lag;
        t.offset = offset;
        t.weight = weight;
        t.shows = s.truth + offset;
        s.all.add(t);
        return s.all.size() - 1;
    }

    public int hour(int temperature) {
        argument(in(temperature, -5000, 5000));
        state(s.hour < 9999);
        save(s.copy());
        return s.pass(temperature);
    }

    public int hours(int hours, int change) {
        argument(in(hours, 1, 24) && in(change, -500, 500));
        state(s.hour + hours <= 9999);
        save(s.copy());
        for (int i = 0; i < hours; i++) {
            s.pass(Math.min(5000, Math.max(-5000, s.truth + change)));
        }
        return s.truth;
    }

    public int period(int row, int period) {
        index(in(row, 0, 3));
        argument(in(period, 1, 6));
        save(s.copy());
        int previous = s.periods[row];
        s.periods[row] = period;
        return previous;
    }

    public int calibrate(int thermometer) {
        get(thermometer);
        save(s.copy());
        T t = get(thermometer);
        int had = t.strikes;
        t.shows = s.truth + t.offset;
        t.readings.clear();
        t.strikes = 0;
        t.out = false;
        return had;
    }

    public int knock(int thermometer, int change) {
        T t = get(thermometer);
        argument(in(change, -3000, 3000));
        state(in(t.shows + change, -20000, 20000));
        save(s.copy());
        t.shows += change;
        return t.shows + 100000;
    }

    public int set(int setting, int value) {
        index(in(setting, 0, 1));
        argument(setting == 0 ? in(value, 10, 2000) : in(value, 1, 5));
        save(s.copy());
        int previous = s.settings[setting];
        s.settings[setting] = value;
        return previous;
    }

    public int append(int code) {
        argument(in(code, 33, 126));
        state(buffer.length() < 60);
        buffer += (char) code;
        return buffer.length();
    }

    public int clearBuffer() {
        int length = buffer.length();
        buffer = "";
        return length;
    }

    public int firstError() {
        for (int i = 1; i <= buffer.length(); i++) {
            Matcher matcher = TEXT.matcher(buffer.substring(0, i));
            if (!matcher.matches() && !matcher.hitEnd()) {
                return i - 1;
            }
        }
        return buffer.length();
    }

    public int execute() {
        argument(TEXT.matcher(buffer).matches());
        List<S> before = new ArrayList<>(saved);
        S start = s.copy();
        int done = 0;
        try {
            for (String order : buffer.split(";")) {
                order(order);
                done++;
            }
        } catch (IndexOutOfBoundsException | IllegalArgumentException | IllegalStateException e) {
            // the orders end here
        }
        saved.clear();
        saved.addAll(before);
        save(start);
        buffer = "";
        return done;
    }

    private void order(String order) {
        String[] numbers = order.substring(1).split("[,*/]");
        int first = Integer.parseInt(numbers[0]);
        switch (order.charAt(0)) {
            case 't':
                thermometer(first, Integer.parseInt(numbers[1]), 0, numbers.length > 2 ? Integer.parseInt(numbers[2]) : 1);
                break;
            case 'h':
                hour(100 * first);
                break;
            case 'p':
                period(first, Integer.parseInt(numbers[1]));
                break;
            default:
                calibrate(first);
        }
    }

    public int undo() {
        state(!saved.isEmpty());
        s = saved.removeLast();
        return saved.size();
    }

    public int keep(int slot) {
        argument(in(slot, 0, 1));
        slots[slot] = s.copy();
        return s.hour;
    }

    public int goBack(int slot) {
        argument(in(slot, 0, 1));
        state(slots[slot] != null);
        save(s);
        s = slots[slot].copy();
        return s.hour;
    }

    public int ofThermometer(int thermometer, int what) {
        T t = get(thermometer);
        argument(in(what, 0, 9));
        int[] numbers = {t.row, t.lag, t.offset, t.weight, t.shows, t.strikes, t.out ? 1 : 0, t.readings.size(), t.spikes, t.mended()};
        return numbers[what];
    }

    public int reading(int thermometer, int ago, int what) {
        T t = get(thermometer);
        argument(ago >= 0 && in(what, 0, 1));
        return t.ago(ago) == null ? NONE : t.ago(ago)[what];
    }

    public int row(int row, int what) {
        index(in(row, 0, 3));
        argument(in(what, 0, 3));
        int wait = 1;
        while ((s.hour + wait) % s.periods[row] != 0) {
            wait++;
        }
        int[] numbers = {s.periods[row], (int) s.all.stream().filter(t -> t.row == row).count(), wait, s.rowReads[row]};
        return numbers[what];
    }

    public int count(int what) {
        argument(in(what, 0, 13));
        Integer mean = s.mean();
        int[] numbers = {
            s.hour,
            s.all.size(),
            s.truth,
            s.mask(T::asked),
            s.mask(t -> t.out),
            mean == null ? NONE : mean,
            mean == null || s.meanBefore == null ? NONE : mean - s.meanBefore,
            s.asked().isEmpty() ? NONE : S.middle(s.asked()),
            s.readings,
            s.spikes,
            saved.size(),
            buffer.length(),
            s.settings[0],
            s.settings[1]};
        return numbers[what];
    }

    public int ranked(int how, int rank) {
        argument(in(how, 0, 1) && rank >= 0);
        Comparator<T> order = how == 0
            ? Comparator.comparingInt(T::mended)
            : Comparator.comparingInt((T t) -> Math.abs(t.mended() - s.truth)).reversed();
        List<T> sorted = s.mendedOnes();
        sorted.sort(order);
        return rank < sorted.size() ? s.all.indexOf(sorted.get(rank)) : NONE;
    }

    public int between(int from, int to) {
        return (int) s.mendedOnes().stream().filter(t -> in(t.mended(), from, to)).count();
    }

    public int ifLag(int thermometer, int lag) {
        T t = get(thermometer);
        argument(in(lag, 1, 9));
        return t.mended(lag);
    }

    public int bestLag(int thermometer) {
        T t = get(thermometer);
        if (t.readings.isEmpty()) {
            return NONE;
        }
        return IntStream.rangeClosed(1, 9).boxed()
            .min(Comparator.comparingInt((Integer lag) -> Math.abs(t.mended(lag) - s.truth)).thenComparing(lag -> lag)).get();
    }

    public int ifStill(int hours, int what) {
        argument(in(hours, 1, 48) && in(what, 0, 3));
        S later = s.copy();
        for (int i = 0; i < hours; i++) {
            later.pass(later.truth);
        }
        Integer mean = later.mean();
        int far = later.all.stream().mapToInt(t -> Math.abs(t.shows - t.offset - later.truth)).max().orElse(0);
        int[] numbers = {mean == null ? NONE : mean, later.mask(t -> t.out), later.spikes - s.spikes, far};
        return numbers[what];
    }

    public int stillIn(int thermometer) {
        T t = get(thermometer).copy();
        int hours = 0;
        while (true) {
            int next = t.shows + (s.truth + t.offset - t.shows) / t.lag;
            if (next == t.shows) {
                return hours;
            }
            t.shows = next;
            hours++;
        }
    }

    public double meanError() {
        return s.mendedOnes().stream().mapToDouble(t -> Math.abs(t.mended() - s.truth)).average().orElse(0.0);
    }
}
