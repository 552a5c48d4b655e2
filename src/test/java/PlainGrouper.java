import java.util.ArrayList;
import java.util.Comparator;
import java.util.List;
import java.util.NoSuchElementException;
import java.util.TreeMap;
import java.util.regex.Matcher;
import java.util.regex.Pattern;

/**
 * The document's words once more, written with the Java library and with as few thoughts in common with
 * BurstGrouper as can be: whole copies of the state, lists of objects, all firings kept, texts by a pattern.
 */
final class PlainGrouper {
    private static final Pattern ENTRY = Pattern.compile("r([0-7]):([0-9]{1,4})=(-?[0-9]{1,3});|w([0-9]{1,4});");
    private static final Pattern TEXT = Pattern.compile("(?:" + ENTRY.pattern() + ")+");

    private record Rec(int time, int value, int arrival) {
    }

    private record Shot(int kind, int burst, int result, int first, int last, int key) {
    }

    private static final class Burst {
        int number;
        int key;
        boolean closed;
        List<Rec> recs = new ArrayList<>();
        Shot shown;
        int shots;

        Burst copy() {
            Burst other = new Burst();
            other.number = number;
            other.key = key;
            other.closed = closed;
            other.recs = new ArrayList<>(recs);
            other.shown = shown;
            other.shots = shots;
            return other;
        }

        int first() {
            return recs.stream().mapToInt(Rec::time).min().getAsInt();
        }

        int last() {
            return recs.stream().mapToInt(Rec::time).max().getAsInt();
        }
    }

    private static final class State {
        int[] gap = {10, 10, 10, 10, 10, 10, 10, 10};
        int[] way = new int[8];
        int lateness;
        int trigger;
        int mark;
        int late;
        int merges;
        int arrivals;
        int formed;
        TreeMap<Integer, Burst> bursts = new TreeMap<>();
        List<Shot> shots = new ArrayList<>();

        State copy() {
            State other = new State();
            other.gap = gap.clone();
            other.way = way.clone();
            other.lateness = lateness;
            other.trigger = trigger;
            other.mark = mark;
            other.late = late;
            other.merges = merges;
            other.arrivals = arrivals;
            other.formed = formed;
            bursts.forEach((number, burst) -> other.bursts.put(number, burst.copy()));
            other.shots = new ArrayList<>(shots);
            return other;
        }
    }

    private State s = new State();
    private State saved;
    private String input = "";
    private Integer error;

    private static void index(boolean holds) {
        if (!holds) {
            throw new IndexOutOfBoundsException();
        }
    }

    private static void argument(boolean holds) {
        if (!holds) {
            throw new IllegalArgumentException();
        }
    }

    private static void state(boolean holds) {
        if (!holds) {
            throw new IllegalStateException();
        }
    }

    private static void key(int key) {
        index(0 <= key && key <= 7);
    }

    private Burst find(int number) {
        index(s.bursts.containsKey(number));
        return s.bursts.get(number);
    }

    int setGap(int key, int gap) {
        key(key);
        argument(1 <= gap && gap <= 50);
        int old = s.gap[key];
        s.gap[key] = gap;
        return old;
    }

    int setFold(int key, int way) {
        key(key);
        argument(0 <= way && way <= 3);
        int old = s.way[key];
        s.way[key] = way;
        return old;
    }

    int setLateness(int lateness) {
        argument(0 <= lateness && lateness <= 100);
        int old = s.lateness;
        s.lateness = lateness;
        return old;
    }

    int setTrigger(int trigger) {
        argument(0 <= trigger && trigger <= 10);
        int old = s.trigger;
        s.trigger = trigger;
        return old;
    }

    int reset() {
        int records = recordCount();
        s = new State();
        return records;
    }

    int add(int key, int time, int value) {
        key(key);
        argument(0 <= time && time <= 9999);
        if (isLate(time)) {
            s.late++;
            return -1;
        }
        state(recordCount() < 100);
        Burst own = new Burst();
        own.number = s.formed++;
        own.key = key;
        own.recs.add(new Rec(time, value, s.arrivals++));
        s.bursts.put(own.number, own);
        Burst[] pair = pair(key);
        while (pair != null) {
            Burst gone = pair[1];
            if (gone.shown != null) {
                takeBack(gone);
            }
            pair[0].recs.addAll(gone.recs);
            s.bursts.remove(gone.number);
            s.merges++;
            own = own == gone ? pair[0] : own;
            pair = pair(key);
        }
        if (s.trigger != 0 && own.recs.size() % s.trigger == 0) {
            shoot(own, 0);
        }
        return own.number;
    }

    private Burst[] pair(int key) {
        for (Burst a : s.bursts.values()) {
            for (Burst b : s.bursts.tailMap(a.number, false).values()) {
                boolean both = a.key == key && b.key == key && !a.closed && !b.closed;
                if (both && (near(a.first(), b, s.gap[key]) || near(b.first(), a, s.gap[key]))) {
                    return new Burst[] {a, b};
                }
            }
        }
        return null;
    }

    private static boolean near(int first, Burst other, int gap) {
        return other.first() <= first && first <= other.last() + gap;
    }

    private void takeBack(Burst b) {
        Shot t = b.shown;
        s.shots.add(new Shot(2, t.burst, t.result, t.first, t.last, t.key));
        b.shown = null;
    }

    private Shot present(Burst b, int kind) {
        return new Shot(kind, b.number, result(b), b.first(), b.last(), b.key);
    }

    private static boolean same(Shot a, Shot b) {
        return a.result == b.result && a.first == b.first && a.last == b.last;
    }

    private int shoot(Burst b, int kind) {
        int before = s.shots.size();
        Shot shot = present(b, kind);
        if (b.shown != null && same(b.shown, shot) && kind == 0) {
            return 0;
        }
        if (b.shown != null && !same(b.shown, shot)) {
            takeBack(b);
        }
        s.shots.add(shot);
        b.shown = shot;
        b.shots++;
        return s.shots.size() - before;
    }

    private int result(Burst b) {
        switch (s.way[b.key]) {
            case 0:
                return b.recs.stream().mapToInt(Rec::value).sum();
            case 1:
                return b.recs.stream().mapToInt(Rec::value).max().getAsInt();
            case 2:
                return b.recs.stream().mapToInt(Rec::value).min().getAsInt();
            default:
                return b.recs.size();
        }
    }

    int advance(int time) {
        argument(time >= s.mark && time <= 20000);
        s.mark = time;
        List<Burst> closing = new ArrayList<>();
        for (Burst b : s.bursts.values()) {
            if (!b.closed && b.last() + s.gap[b.key] + s.lateness < time) {
                closing.add(b);
            }
        }
        closing.sort(Comparator.comparingInt(Burst::last).thenComparingInt(b -> b.number));
        for (Burst b : closing) {
            shoot(b, 1);
            b.closed = true;
        }
        return closing.size();
    }

    int watermark() {
        return s.mark;
    }

    int lateCount() {
        return s.late;
    }

    boolean isLate(int time) {
        return (long) time + s.lateness < s.mark;
    }

    int recordCount() {
        return s.bursts.values().stream().mapToInt(b -> b.recs.size()).sum();
    }

    int burstCount() {
        return s.bursts.size();
    }

    int openCount() {
        return (int) s.bursts.values().stream().filter(b -> !b.closed).count();
    }

    int burst(int number, int what) {
        Burst b = find(number);
        argument(0 <= what && what <= 5);
        return new int[] {b.key, b.first(), b.last(), b.recs.size(), result(b), b.shots}[what];
    }

    boolean isClosed(int number) {
        return find(number).closed;
    }

    boolean isDirty(int number) {
        Burst b = find(number);
        return b.shown == null || !same(b.shown, present(b, 0));
    }

    private List<Burst> ofKey(int key) {
        List<Burst> found = new ArrayList<>(s.bursts.values());
        found.removeIf(b -> b.key != key);
        return found;
    }

    int burstAt(int key, int place) {
        key(key);
        List<Burst> found = ofKey(key);
        found.sort(Comparator.comparingInt(Burst::first).thenComparingInt(b -> b.number));
        if (place < 0 || place >= found.size()) {
            throw new NoSuchElementException();
        }
        return found.get(place).number;
    }

    int joined(int key, int time) {
        key(key);
        argument(0 <= time && time <= 9999);
        return ofKey(key).stream().filter(b -> !b.closed)
                .filter(b -> b.first() <= time + s.gap[key] && b.last() + s.gap[key] >= time)
                .mapToInt(b -> b.number).min().orElseThrow(NoSuchElementException::new);
    }

    int record(int number, int place, boolean isTime) {
        List<Rec> found = new ArrayList<>(find(number).recs);
        found.sort(Comparator.comparingInt(Rec::time).thenComparingInt(Rec::arrival));
        if (place < 0 || place >= found.size()) {
            throw new NoSuchElementException();
        }
        return isTime ? found.get(place).time : found.get(place).value;
    }

    int closesAt(int number) {
        Burst b = find(number);
        state(!b.closed);
        return b.last() + s.gap[b.key] + s.lateness + 1;
    }

    int nextClosing() {
        return s.bursts.values().stream().filter(b -> !b.closed)
                .min(Comparator.<Burst>comparingInt(b -> closesAt(b.number)).thenComparingInt(Burst::last)
                        .thenComparingInt(b -> b.number))
                .orElseThrow(NoSuchElementException::new).number;
    }

    double averageLength(int key) {
        key(key);
        List<Burst> found = ofKey(key);
        if (found.isEmpty()) {
            throw new ArithmeticException();
        }
        int sum = found.stream().mapToInt(b -> b.last() - b.first()).sum();
        return (double) sum / (double) found.size();
    }

    int mergeCount() {
        return s.merges;
    }

    int regrouped(int key) {
        key(key);
        PlainGrouper other = new PlainGrouper();
        other.s.gap[key] = s.gap[key];
        for (Burst b : ofKey(key)) {
            for (Rec rec : b.recs) {
                other.add(key, rec.time, rec.value);
            }
        }
        return other.burstCount();
    }

    int fire(int number) {
        Burst b = find(number);
        state(!b.closed);
        return shoot(b, 0);
    }

    private List<Shot> log() {
        return s.shots.subList(Math.max(0, s.shots.size() - 60), s.shots.size());
    }

    int firingCount() {
        return log().size();
    }

    int firing(int place, int what) {
        index(place >= 0 && place < log().size());
        argument(0 <= what && what <= 5);
        Shot t = log().get(place);
        return new int[] {t.kind, t.burst, t.result, t.first, t.last, t.key}[what];
    }

    int firings(int kind) {
        argument(0 <= kind && kind <= 2);
        return (int) s.shots.stream().filter(t -> t.kind == kind).count();
    }

    long balance() {
        return s.shots.stream().mapToLong(t -> t.kind == 2 ? -(long) t.result : t.result).sum();
    }

    long standing() {
        return s.bursts.values().stream().filter(b -> b.shown != null).mapToLong(b -> b.shown.result).sum();
    }

    int append(char character) {
        argument(32 <= character && character <= 126);
        state(input.length() < 40);
        input += character;
        return input.length();
    }

    int read() {
        String text = input;
        input = "";
        if (!TEXT.matcher(text).matches()) {
            error = firstWrong(text);
            throw new IllegalArgumentException();
        }
        State before = s.copy();
        int entries = 0;
        try {
            Matcher m = ENTRY.matcher(text);
            while (m.find()) {
                entries++;
                if (m.group(4) != null) {
                    advance(Integer.parseInt(m.group(4)));
                } else {
                    add(Integer.parseInt(m.group(1)), Integer.parseInt(m.group(2)), Integer.parseInt(m.group(3)));
                }
            }
        } catch (RuntimeException e) {
            s = before;
            throw new IllegalStateException();
        }
        return entries;
    }

    /** A pattern that wants more at the end of a beginning says that some text goes on from it. */
    private static int firstWrong(String text) {
        for (int k = 0; k < text.length(); k++) {
            Matcher m = TEXT.matcher(text.substring(0, k + 1));
            if (!m.matches() && !m.hitEnd()) {
                return k;
            }
        }
        return text.length();
    }

    int errorPosition() {
        if (error == null) {
            throw new NoSuchElementException();
        }
        return error;
    }

    int save() {
        saved = s.copy();
        return recordCount();
    }

    int restore() {
        state(saved != null);
        s = saved.copy();
        return recordCount();
    }
}
