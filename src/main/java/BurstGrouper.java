import java.util.NoSuchElementException;

/** Groups records into bursts by gaps of time, and fires, corrects and closes these bursts. */
public final class BurstGrouper {
    private static final int KEYS = 8;
    private static final int MOST_RECORDS = 100;
    private static final int MOST_LOGGED = 60;
    private static final int MOST_SIGNS = 40;
    /** The shortest entry, such as w1; has three signs; rounded up, for the last one may be cut off. */
    private static final int MOST_ENTRIES = (MOST_SIGNS + 2) / 3;

    private static final int GREATEST_TIME = 9999;
    private static final int GREATEST_WATERMARK = 20000;
    private static final int FIRST_GAP = 10;
    private static final int GREATEST_GAP = 50;
    private static final int GREATEST_LATENESS = 100;
    private static final int GREATEST_TRIGGER = 10;
    private static final int GREATEST_WHAT = 5;
    private static final int LEAST_SIGN = 32;
    private static final int GREATEST_SIGN = 126;

    private static final int SUM = 0;
    private static final int GREATEST = 1;
    private static final int LEAST = 2;
    private static final int NUMBER = 3;

    private static final int EARLY = 0;
    private static final int FINAL = 1;
    private static final int RETRACTION = 2;
    private static final int KINDS = 3;

    private static final int OPEN = 0;
    private static final int CLOSED = 1;
    private static final int VANISHED = 2;

    private static final int NONE = -1;

    private final Grouping now = new Grouping();
    private final Grouping kept = new Grouping();
    private final Text text = new Text();
    private boolean hasKept = false;
    private int keptError = NONE;

    public BurstGrouper() {
    }

    // ---- settings

    public int setGap(int key, int gap) throws IndexOutOfBoundsException, IllegalArgumentException {
        needKey(key);
        needWithin(gap, 1, GREATEST_GAP);
        int previous = now.gaps.at(key);
        now.gaps.put(key, gap);
        return previous;
    }

    public int setFold(int key, int way) throws IndexOutOfBoundsException, IllegalArgumentException {
        needKey(key);
        needWithin(way, SUM, NUMBER);
        int previous = now.ways.at(key);
        now.ways.put(key, way);
        return previous;
    }

    public int setLateness(int lateness) throws IllegalArgumentException {
        needWithin(lateness, 0, GREATEST_LATENESS);
        int previous = now.lateness;
        now.lateness = lateness;
        return previous;
    }

    public int setTrigger(int trigger) throws IllegalArgumentException {
        needWithin(trigger, 0, GREATEST_TRIGGER);
        int previous = now.trigger;
        now.trigger = trigger;
        return previous;
    }

    public int reset() {
        int removed = now.records.count;
        now.clear();
        return removed;
    }

    // ---- records and the watermark

    public int add(int key, int time, int value)
            throws IndexOutOfBoundsException, IllegalArgumentException, IllegalStateException {
        needKey(key);
        needWithin(time, 0, GREATEST_TIME);
        if (now.records.count >= MOST_RECORDS && !now.comesLate(time, now.mark)) {
            throw new IllegalStateException("no more records can be kept");
        }
        return now.take(key, time, value);
    }

    public int advance(int time) throws IllegalArgumentException {
        needWithin(time, now.mark, GREATEST_WATERMARK);
        return now.moveMark(time);
    }

    public int watermark() {
        return now.mark;
    }

    public int lateCount() {
        return now.late;
    }

    public boolean isLate(int time) {
        return now.comesLate(time, now.mark);
    }

    public int recordCount() {
        return now.records.count;
    }

    // ---- bursts

    public int burstCount() {
        return now.bursts.countPhase(OPEN) + now.bursts.countPhase(CLOSED);
    }

    public int openCount() {
        return now.bursts.countPhase(OPEN);
    }

    public int burst(int burst, int what) throws IndexOutOfBoundsException, IllegalArgumentException {
        needBurst(burst);
        needWithin(what, 0, GREATEST_WHAT);
        switch (what) {
            case 0:
                return now.bursts.key.at(burst);
            case 1:
                return now.bursts.first.at(burst);
            case 2:
                return now.bursts.last.at(burst);
            case 3:
                return now.records.countOf(burst);
            case 4:
                return now.resultOf(burst);
            default:
                return now.bursts.timesFired.at(burst);
        }
    }

    public boolean isClosed(int burst) throws IndexOutOfBoundsException {
        needBurst(burst);
        return !now.bursts.isOpen(burst);
    }

    public boolean isDirty(int burst) throws IndexOutOfBoundsException {
        needBurst(burst);
        return !now.bursts.hasFired(burst) || now.bursts.differsFromFired(burst, now.resultOf(burst));
    }

    public int burstAt(int key, int index) throws IndexOutOfBoundsException, NoSuchElementException {
        needKey(key);
        return needFound(now.bursts.atPlace(key, index));
    }

    public int joined(int key, int time)
            throws IndexOutOfBoundsException, IllegalArgumentException, NoSuchElementException {
        needKey(key);
        needWithin(time, 0, GREATEST_TIME);
        return needFound(now.bursts.inReach(key, time, now.gaps.at(key)));
    }

    public int record(int burst, int index, boolean isTime)
            throws IndexOutOfBoundsException, NoSuchElementException {
        needBurst(burst);
        int place = needFound(now.records.placeOf(burst, index));
        return isTime ? now.records.time.at(place) : now.records.value.at(place);
    }

    public int closesAt(int burst) throws IndexOutOfBoundsException, IllegalStateException {
        needBurst(burst);
        needOpen(burst);
        return now.closingMark(burst);
    }

    public int nextClosing() throws NoSuchElementException {
        return needFound(now.firstToClose(now.leastClosingMark()));
    }

    public double averageLength(int key) throws IndexOutOfBoundsException, ArithmeticException {
        needKey(key);
        int number = now.bursts.countOfKey(key);
        if (number == 0) {
            throw new ArithmeticException("no burst of the key");
        }
        return (double) now.bursts.lengthOfKey(key) / (double) number;
    }

    public int mergeCount() {
        return now.merges;
    }

    public int regrouped(int key) throws IndexOutOfBoundsException {
        needKey(key);
        return now.groupAnew(key);
    }

    // ---- firings

    public int fire(int burst) throws IndexOutOfBoundsException, IllegalStateException {
        needBurst(burst);
        needOpen(burst);
        return now.letFire(burst, EARLY);
    }

    public int firingCount() {
        return now.log.size;
    }

    public int firing(int index, int what) throws IndexOutOfBoundsException, IllegalArgumentException {
        if (index < 0 || index >= now.log.size) {
            throw new IndexOutOfBoundsException("no such firing");
        }
        needWithin(what, 0, GREATEST_WHAT);
        return now.log.entry(index, what);
    }

    public int firings(int kind) throws IllegalArgumentException {
        needWithin(kind, EARLY, RETRACTION);
        return now.log.totals.at(kind);
    }

    public long balance() {
        return now.log.sum;
    }

    public long standing() {
        return now.bursts.sumOfFired();
    }

    // ---- texts

    public int append(char character) throws IllegalArgumentException, IllegalStateException {
        needWithin(character, LEAST_SIGN, GREATEST_SIGN);
        if (text.length >= MOST_SIGNS) {
            throw new IllegalStateException("the input is full");
        }
        return text.lengthen(character);
    }

    public int read() throws IllegalArgumentException, IllegalStateException {
        boolean isText = text.parse();
        text.length = 0;
        if (!isText) {
            keptError = text.position;
            throw new IllegalArgumentException("the input is not a text");
        }
        if (!now.canCarryOut(text)) {
            throw new IllegalStateException("an entry cannot be carried out");
        }
        for (int entry = 0; entry < text.entries; entry++) {
            if (text.key.at(entry) == NONE) {
                now.moveMark(text.time.at(entry));
            } else {
                now.take(text.key.at(entry), text.time.at(entry), text.value.at(entry));
            }
        }
        return text.entries;
    }

    public int errorPosition() throws NoSuchElementException {
        return needFound(keptError);
    }

    // ---- saving

    public int save() {
        kept.copyFrom(now);
        hasKept = true;
        return now.records.count;
    }

    public int restore() throws IllegalStateException {
        if (!hasKept) {
            throw new IllegalStateException("nothing was saved");
        }
        now.copyFrom(kept);
        return now.records.count;
    }

    // ---- what the methods above ask of their arguments

    private static void needKey(int key) {
        if (key < 0 || key >= KEYS) {
            throw new IndexOutOfBoundsException("no such key");
        }
    }

    private static void needWithin(int number, int least, int most) {
        if (number < least || number > most) {
            throw new IllegalArgumentException("out of range");
        }
    }

    private static int needFound(int number) {
        if (number == NONE) {
            throw new NoSuchElementException("there is none");
        }
        return number;
    }

    private void needBurst(int burst) {
        if (!now.bursts.stands(burst)) {
            throw new IndexOutOfBoundsException("no such burst");
        }
    }

    private void needOpen(int burst) {
        if (!now.bursts.isOpen(burst)) {
            throw new IllegalStateException("the burst is closed");
        }
    }

    /** Numbers at places from 0; every access looks at its place, so that the machine never throws. */
    private static final class Row {
        private final int[] cells;

        Row(int length) {
            cells = new int[Math.max(0, length)];
        }

        int at(int place) {
            return place >= 0 && place < cells.length ? cells[place] : 0;
        }

        void put(int place, int number) {
            if (place >= 0 && place < cells.length) {
                cells[place] = number;
            }
        }

        void fillWith(int number) {
            for (int place = 0; place < cells.length; place++) {
                cells[place] = number;
            }
        }

        /** Puts a number before others of the row, of which the first ones are in use. */
        void insert(int place, int number, int used) {
            for (int free = Math.min(used, cells.length - 1); free > place; free--) {
                put(free, at(free - 1));
            }
            put(place, number);
        }

        void copyFrom(Row other) {
            for (int place = 0; place < cells.length; place++) {
                cells[place] = other == null ? 0 : other.at(place);
            }
        }
    }

    /** The records that are kept, always in the order of their times, of several as they came. */
    private static final class Records {
        final Row time = new Row(MOST_RECORDS);
        final Row value = new Row(MOST_RECORDS);
        final Row burst = new Row(MOST_RECORDS);
        int count = 0;

        void copyFrom(Records other) {
            if (other == null) {
                return;
            }
            time.copyFrom(other.time);
            value.copyFrom(other.value);
            burst.copyFrom(other.burst);
            count = other.count;
        }

        void keep(int itsTime, int itsValue, int itsBurst) {
            int place = 0;
            while (place < count && time.at(place) <= itsTime) {
                place++;
            }
            time.insert(place, itsTime, count);
            value.insert(place, itsValue, count);
            burst.insert(place, itsBurst, count);
            count++;
        }

        void moveAll(int from, int to) {
            for (int place = 0; place < count; place++) {
                if (burst.at(place) == from) {
                    burst.put(place, to);
                }
            }
        }

        int countOf(int ofBurst) {
            int found = 0;
            for (int place = 0; place < count; place++) {
                if (burst.at(place) == ofBurst) {
                    found++;
                }
            }
            return found;
        }

        int placeOf(int ofBurst, int index) {
            int passed = 0;
            for (int place = 0; place < count; place++) {
                if (burst.at(place) == ofBurst) {
                    if (passed == index) {
                        return place;
                    }
                    passed++;
                }
            }
            return NONE;
        }

        int fold(int ofBurst, int way) {
            int result = startOf(way);
            for (int place = 0; place < count; place++) {
                if (burst.at(place) == ofBurst) {
                    result = foldOne(way, result, value.at(place));
                }
            }
            return result;
        }

        private static int startOf(int way) {
            switch (way) {
                case GREATEST:
                    return Integer.MIN_VALUE;
                case LEAST:
                    return Integer.MAX_VALUE;
                default:
                    return 0;
            }
        }

        private static int foldOne(int way, int result, int itsValue) {
            switch (way) {
                case SUM:
                    return result + itsValue;
                case GREATEST:
                    return Math.max(result, itsValue);
                case LEAST:
                    return Math.min(result, itsValue);
                default:
                    return result + 1;
            }
        }
    }

    /** All bursts by their numbers. Each record forms one, so there are no more of them than records. */
    private static final class Bursts {
        final Row key = new Row(MOST_RECORDS);
        final Row first = new Row(MOST_RECORDS);
        final Row last = new Row(MOST_RECORDS);
        final Row phase = new Row(MOST_RECORDS);
        final Row timesFired = new Row(MOST_RECORDS);
        /** 1 where a burst counts as having fired; only then the three rows below say something. */
        final Row fired = new Row(MOST_RECORDS);
        final Row firedResult = new Row(MOST_RECORDS);
        final Row firedFirst = new Row(MOST_RECORDS);
        final Row firedLast = new Row(MOST_RECORDS);
        int formed = 0;

        void copyFrom(Bursts other) {
            if (other == null) {
                return;
            }
            key.copyFrom(other.key);
            first.copyFrom(other.first);
            last.copyFrom(other.last);
            phase.copyFrom(other.phase);
            timesFired.copyFrom(other.timesFired);
            fired.copyFrom(other.fired);
            firedResult.copyFrom(other.firedResult);
            firedFirst.copyFrom(other.firedFirst);
            firedLast.copyFrom(other.firedLast);
            formed = other.formed;
        }

        int form(int itsKey, int time) {
            int number = formed;
            key.put(number, itsKey);
            first.put(number, time);
            last.put(number, time);
            phase.put(number, OPEN);
            timesFired.put(number, 0);
            fired.put(number, 0);
            formed++;
            return number;
        }

        boolean stands(int number) {
            return number >= 0 && number < formed && phase.at(number) != VANISHED;
        }

        boolean isOpen(int number) {
            return number >= 0 && number < formed && phase.at(number) == OPEN;
        }

        boolean standsOfKey(int number, int itsKey) {
            return stands(number) && key.at(number) == itsKey;
        }

        boolean isOpenOfKey(int number, int itsKey) {
            return number >= 0 && number < formed && phase.at(number) == OPEN && key.at(number) == itsKey;
        }

        boolean hasFired(int number) {
            return fired.at(number) == 1;
        }

        int countPhase(int itsPhase) {
            int found = 0;
            for (int number = 0; number < formed; number++) {
                if (phase.at(number) == itsPhase) {
                    found++;
                }
            }
            return found;
        }

        int countOfKey(int itsKey) {
            int found = 0;
            for (int number = 0; number < formed; number++) {
                if (standsOfKey(number, itsKey)) {
                    found++;
                }
            }
            return found;
        }

        int lengthOfKey(int itsKey) {
            int length = 0;
            for (int number = 0; number < formed; number++) {
                if (standsOfKey(number, itsKey)) {
                    length += last.at(number) - first.at(number);
                }
            }
            return length;
        }

        /** The burst before which as many others of its key lie as the index says. */
        int atPlace(int itsKey, int index) {
            for (int number = 0; number < formed; number++) {
                if (standsOfKey(number, itsKey) && countBefore(number) == index) {
                    return number;
                }
            }
            return NONE;
        }

        private int countBefore(int number) {
            int before = 0;
            for (int other = 0; other < formed; other++) {
                if (standsOfKey(other, key.at(number)) && liesBefore(other, number)) {
                    before++;
                }
            }
            return before;
        }

        private boolean liesBefore(int one, int other) {
            return first.at(one) < first.at(other) || first.at(one) == first.at(other) && one < other;
        }

        int inReach(int itsKey, int time, int gap) {
            for (int number = 0; number < formed; number++) {
                if (isOpenOfKey(number, itsKey) && first.at(number) <= time + gap
                        && last.at(number) + gap >= time) {
                    return number;
                }
            }
            return NONE;
        }

        /** The open burst of a higher number with which an open burst merges next. */
        int partnerOf(int lower, int gap) {
            for (int higher = lower + 1; higher < formed; higher++) {
                if (isOpenOfKey(higher, key.at(lower))
                        && (startsIn(higher, lower, gap) || startsIn(lower, higher, gap))) {
                    return higher;
                }
            }
            return NONE;
        }

        private boolean startsIn(int one, int other, int gap) {
            return first.at(one) >= first.at(other) && first.at(one) <= last.at(other) + gap;
        }

        void swallow(int lower, int higher) {
            first.put(lower, Math.min(first.at(lower), first.at(higher)));
            last.put(lower, Math.max(last.at(lower), last.at(higher)));
            phase.put(higher, VANISHED);
        }

        boolean differsFromFired(int number, int result) {
            return result != firedResult.at(number) || first.at(number) != firedFirst.at(number)
                    || last.at(number) != firedLast.at(number);
        }

        void noteFired(int number, int result) {
            fired.put(number, 1);
            firedResult.put(number, result);
            firedFirst.put(number, first.at(number));
            firedLast.put(number, last.at(number));
            timesFired.put(number, timesFired.at(number) + 1);
        }

        long sumOfFired() {
            long sum = 0;
            for (int number = 0; number < formed; number++) {
                if (hasFired(number)) {
                    sum += firedResult.at(number);
                }
            }
            return sum;
        }
    }

    /** The last firings, in a ring so that nothing moves when the oldest one is dropped. */
    private static final class Log {
        private final Row kind = new Row(MOST_LOGGED);
        private final Row burst = new Row(MOST_LOGGED);
        private final Row result = new Row(MOST_LOGGED);
        private final Row first = new Row(MOST_LOGGED);
        private final Row last = new Row(MOST_LOGGED);
        private final Row key = new Row(MOST_LOGGED);
        private int oldest = 0;
        final Row totals = new Row(KINDS);
        int size = 0;
        long sum = 0;

        void clear() {
            totals.fillWith(0);
            oldest = 0;
            size = 0;
            sum = 0;
        }

        void copyFrom(Log other) {
            if (other == null) {
                return;
            }
            kind.copyFrom(other.kind);
            burst.copyFrom(other.burst);
            result.copyFrom(other.result);
            first.copyFrom(other.first);
            last.copyFrom(other.last);
            key.copyFrom(other.key);
            totals.copyFrom(other.totals);
            oldest = other.oldest;
            size = other.size;
            sum = other.sum;
        }

        void enter(int itsKind, int itsBurst, int itsResult, int itsFirst, int itsLast, int itsKey) {
            int place = placeOf(size);
            kind.put(place, itsKind);
            burst.put(place, itsBurst);
            result.put(place, itsResult);
            first.put(place, itsFirst);
            last.put(place, itsLast);
            key.put(place, itsKey);
            if (size < MOST_LOGGED) {
                size++;
            } else {
                oldest = placeOf(1);
            }
            totals.put(itsKind, totals.at(itsKind) + 1);
            sum += itsKind == RETRACTION ? -(long) itsResult : (long) itsResult;
        }

        int entry(int index, int what) {
            int place = placeOf(index);
            switch (what) {
                case 0:
                    return kind.at(place);
                case 1:
                    return burst.at(place);
                case 2:
                    return result.at(place);
                case 3:
                    return first.at(place);
                case 4:
                    return last.at(place);
                default:
                    return key.at(place);
            }
        }

        private int placeOf(int index) {
            int place = oldest + index;
            return place < MOST_LOGGED ? place : place - MOST_LOGGED;
        }
    }

    /** All that save keeps: the settings, the records, the bursts, the log and the counts. */
    private static final class Grouping {
        final Row gaps = new Row(KEYS);
        final Row ways = new Row(KEYS);
        final Records records = new Records();
        final Bursts bursts = new Bursts();
        final Log log = new Log();
        int lateness;
        int trigger;
        int mark;
        int late;
        int merges;

        Grouping() {
            clear();
        }

        void clear() {
            gaps.fillWith(FIRST_GAP);
            ways.fillWith(SUM);
            records.count = 0;
            bursts.formed = 0;
            log.clear();
            lateness = 0;
            trigger = 0;
            mark = 0;
            late = 0;
            merges = 0;
        }

        void copyFrom(Grouping other) {
            if (other == null) {
                return;
            }
            gaps.copyFrom(other.gaps);
            ways.copyFrom(other.ways);
            records.copyFrom(other.records);
            bursts.copyFrom(other.bursts);
            log.copyFrom(other.log);
            lateness = other.lateness;
            trigger = other.trigger;
            mark = other.mark;
            late = other.late;
            merges = other.merges;
        }

        /** Any time may be asked for, and the sum of the greatest ones would wrap as an int. */
        boolean comesLate(int time, int atMark) {
            return (long) time + lateness < atMark;
        }

        int take(int key, int time, int value) {
            if (comesLate(time, mark)) {
                late++;
                return NONE;
            }
            int formed = bursts.form(key, time);
            records.keep(time, value, formed);
            int owner = mergeAll(key, formed);
            if (trigger > 0 && records.countOf(owner) % trigger == 0) {
                letFire(owner, EARLY);
            }
            return owner;
        }

        /** Merges what can merge, and answers where the records of a burst are afterwards. */
        private int mergeAll(int key, int burst) {
            int owner = burst;
            int gap = gaps.at(key);
            for (int round = 0; round < MOST_RECORDS; round++) {
                int lower = lowerOfNextPair(key, gap);
                if (lower == NONE) {
                    return owner;
                }
                int higher = bursts.partnerOf(lower, gap);
                merge(lower, higher);
                owner = owner == higher ? lower : owner;
            }
            return owner;
        }

        private int lowerOfNextPair(int key, int gap) {
            for (int lower = 0; lower < bursts.formed; lower++) {
                if (bursts.isOpenOfKey(lower, key) && bursts.partnerOf(lower, gap) != NONE) {
                    return lower;
                }
            }
            return NONE;
        }

        private void merge(int lower, int higher) {
            if (bursts.hasFired(higher)) {
                retract(higher);
            }
            records.moveAll(higher, lower);
            bursts.swallow(lower, higher);
            merges++;
        }

        int resultOf(int burst) {
            return records.fold(burst, ways.at(bursts.key.at(burst)));
        }

        /** Answers how many firings it adds to the log, the correction included. */
        int letFire(int burst, int kind) {
            int result = resultOf(burst);
            int added = 1;
            if (bursts.hasFired(burst)) {
                if (bursts.differsFromFired(burst, result)) {
                    retract(burst);
                    added = 2;
                } else if (kind == EARLY) {
                    return 0;
                }
            }
            log.enter(kind, burst, result, bursts.first.at(burst), bursts.last.at(burst), bursts.key.at(burst));
            bursts.noteFired(burst, result);
            return added;
        }

        private void retract(int burst) {
            log.enter(RETRACTION, burst, bursts.firedResult.at(burst), bursts.firedFirst.at(burst),
                    bursts.firedLast.at(burst), bursts.key.at(burst));
            bursts.fired.put(burst, 0);
        }

        int moveMark(int time) {
            mark = time;
            int closed = 0;
            for (int round = 0; round < MOST_RECORDS; round++) {
                int burst = firstToClose(mark);
                if (burst == NONE) {
                    return closed;
                }
                letFire(burst, FINAL);
                bursts.phase.put(burst, CLOSED);
                closed++;
            }
            return closed;
        }

        int closingMark(int burst) {
            return bursts.last.at(burst) + gaps.at(bursts.key.at(burst)) + lateness + 1;
        }

        int leastClosingMark() {
            int least = Integer.MAX_VALUE;
            for (int burst = 0; burst < bursts.formed; burst++) {
                if (bursts.isOpen(burst)) {
                    least = Math.min(least, closingMark(burst));
                }
            }
            return least;
        }

        /** The first one in the order of firing among the bursts that close at a watermark. */
        int firstToClose(int atMark) {
            int chosen = NONE;
            for (int burst = 0; burst < bursts.formed; burst++) {
                if (bursts.isOpen(burst) && closingMark(burst) <= atMark
                        && (chosen == NONE || bursts.last.at(burst) < bursts.last.at(chosen))) {
                    chosen = burst;
                }
            }
            return chosen;
        }

        int groupAnew(int key) {
            int groups = 0;
            int previous = 0;
            for (int place = 0; place < records.count; place++) {
                if (bursts.key.at(records.burst.at(place)) == key) {
                    int time = records.time.at(place);
                    if (groups == 0 || time > previous + gaps.at(key)) {
                        groups++;
                    }
                    previous = time;
                }
            }
            return groups;
        }

        /** Goes through the entries without a change, for nothing may change if one of them cannot be. */
        boolean canCarryOut(Text text) {
            if (text == null) {
                return false;
            }
            int markThen = mark;
            int recordsThen = records.count;
            for (int entry = 0; entry < text.entries; entry++) {
                int time = text.time.at(entry);
                if (text.key.at(entry) == NONE) {
                    if (time < markThen) {
                        return false;
                    }
                    markThen = time;
                } else if (!comesLate(time, markThen)) {
                    if (recordsThen >= MOST_RECORDS) {
                        return false;
                    }
                    recordsThen++;
                }
            }
            return true;
        }
    }

    /** The input, and the entries that were found in it when it was parsed. */
    private static final class Text {
        private static final int TIME_DIGITS = 4;
        private static final int VALUE_DIGITS = 3;

        private final Row signs = new Row(MOST_SIGNS);
        int length = 0;
        /** Where parsing stands; if it ends without success, no text goes on with the sign there. */
        int position = 0;
        /** Of each entry its key, or NONE for one that advances the watermark. */
        final Row key = new Row(MOST_ENTRIES);
        final Row time = new Row(MOST_ENTRIES);
        final Row value = new Row(MOST_ENTRIES);
        int entries = 0;

        int lengthen(int sign) {
            signs.put(length, sign);
            length++;
            return length;
        }

        boolean parse() {
            position = 0;
            entries = 0;
            for (int found = 0; found < MOST_ENTRIES; found++) {
                if (!parseEntry()) {
                    return false;
                }
                if (position >= length) {
                    return true;
                }
            }
            return false;
        }

        private boolean parseEntry() {
            if (takeSign('r')) {
                return parseRecord();
            }
            return takeSign('w') && parseWatermark();
        }

        private boolean parseRecord() {
            int itsKey = takeDigit(KEYS - 1);
            if (itsKey == NONE || !takeSign(':')) {
                return false;
            }
            int itsTime = takeNumber(TIME_DIGITS);
            if (itsTime == NONE || !takeSign('=')) {
                return false;
            }
            boolean isNegative = takeSign('-');
            int size = takeNumber(VALUE_DIGITS);
            if (size == NONE || !takeSign(';')) {
                return false;
            }
            noteEntry(itsKey, itsTime, isNegative ? -size : size);
            return true;
        }

        private boolean parseWatermark() {
            int itsTime = takeNumber(TIME_DIGITS);
            if (itsTime == NONE || !takeSign(';')) {
                return false;
            }
            noteEntry(NONE, itsTime, 0);
            return true;
        }

        private void noteEntry(int itsKey, int itsTime, int itsValue) {
            key.put(entries, itsKey);
            time.put(entries, itsTime);
            value.put(entries, itsValue);
            entries++;
        }

        private boolean takeSign(int sign) {
            if (position >= length || signs.at(position) != sign) {
                return false;
            }
            position++;
            return true;
        }

        private int takeDigit(int greatest) {
            if (position >= length) {
                return NONE;
            }
            int digit = signs.at(position) - '0';
            if (digit < 0 || digit > greatest) {
                return NONE;
            }
            position++;
            return digit;
        }

        private int takeNumber(int mostDigits) {
            int number = NONE;
            for (int taken = 0; taken < mostDigits; taken++) {
                int digit = takeDigit(9);
                if (digit == NONE) {
                    return number;
                }
                number = number == NONE ? digit : number * 10 + digit;
            }
            return number;
        }
    }
}
