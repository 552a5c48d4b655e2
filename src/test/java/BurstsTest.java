import java.util.NoSuchElementException;

/** Promises 13 to 25: burstCount to regrouped. */
public final class BurstsTest {
    private static final Class<IndexOutOfBoundsException> INDEX = IndexOutOfBoundsException.class;
    private static final Class<IllegalArgumentException> ARGUMENT = IllegalArgumentException.class;
    private static final Class<IllegalStateException> STATE = IllegalStateException.class;
    private static final Class<NoSuchElementException> NO_ELEMENT = NoSuchElementException.class;

    public static void main(String[] arguments) {
        counts();
        numbers();
        missingBursts();
        dirty();
        places();
        joined();
        records();
        closesAt();
        nextClosing();
        averageLength();
        mergeCount();
        regrouped();
        questionsChangeNothing();
        Check.end();
    }

    private static BurstGrouper twoMergedOneClosed() {
        BurstGrouper x = new BurstGrouper();
        x.add(0, 10, 5);
        x.advance(21);
        x.add(0, 40, 6);
        x.add(0, 60, 7);
        x.add(0, 50, 8);
        x.add(5, 50, 9);
        return x;
    }

    private static void counts() {
        BurstGrouper x = twoMergedOneClosed();
        Check.due("13: closed ones included, vanished ones not", x.burstCount(), 3);
        Check.due("14: not closed", x.openCount(), 2);
        x.advance(20000);
        Check.due("13: all stay", x.burstCount(), 3);
        Check.due("14: none open", x.openCount(), 0);
    }

    private static void numbers() {
        BurstGrouper x = twoMergedOneClosed();
        int[][] due = {{0, 0, 10, 10, 1, 5, 1}, {1, 0, 40, 60, 3, 21, 0}, {4, 5, 50, 50, 1, 9, 0}};
        for (int[] row : due) {
            for (int what = 0; what < 6; what++) {
                Check.due("15: burst " + row[0] + " what " + what, x.burst(row[0], what), row[what + 1]);
            }
        }
        Check.refusing("15: what -1", x, ARGUMENT, () -> x.burst(1, -1));
        Check.refusing("15: what 6", x, ARGUMENT, () -> x.burst(1, 6));
        Check.due("16: closed", x.isClosed(0), true);
        Check.due("16: open", x.isClosed(1), false);
    }

    private static void missingBursts() {
        BurstGrouper x = twoMergedOneClosed();
        for (int burst : new int[] {-1, 2, 3, 5, 100, Integer.MAX_VALUE, Integer.MIN_VALUE}) {
            Check.refusing("15: burst " + burst, x, INDEX, () -> x.burst(burst, 0));
            Check.refusing("15: burst and what " + burst, x, INDEX, () -> x.burst(burst, 6));
            Check.refusing("16: burst " + burst, x, INDEX, () -> x.isClosed(burst));
            Check.refusing("17: burst " + burst, x, INDEX, () -> x.isDirty(burst));
            Check.refusing("20: burst " + burst, x, INDEX, () -> x.record(burst, 0, true));
            Check.refusing("20: burst and index " + burst, x, INDEX, () -> x.record(burst, -1, true));
            Check.refusing("21: burst " + burst, x, INDEX, () -> x.closesAt(burst));
            Check.refusing("26: burst " + burst, x, INDEX, () -> x.fire(burst));
        }
    }

    private static void dirty() {
        BurstGrouper x = new BurstGrouper();
        x.add(0, 10, 5);
        Check.due("17: has not fired", x.isDirty(0), true);
        x.fire(0);
        Check.due("17: has fired", x.isDirty(0), false);
        x.add(0, 10, 0);
        Check.due("17: nothing is different", x.isDirty(0), false);
        x.add(0, 10, 1);
        Check.due("17: another result", x.isDirty(0), true);
        x.fire(0);
        x.add(0, 11, 0);
        Check.due("17: another last time", x.isDirty(0), true);
        x.fire(0);
        x.add(0, 9, 0);
        Check.due("17: another first time", x.isDirty(0), true);
        x.setFold(0, 1);
        x.fire(0);
        Check.due("17: clean again", x.isDirty(0), false);
        x.setFold(0, 2);
        Check.due("17: another way", x.isDirty(0), true);
        x.setFold(0, 1);
        Check.due("17: and back", x.isDirty(0), false);
        x.advance(100);
        Check.due("17: closed and clean", x.isDirty(0), false);
    }

    private static void places() {
        BurstGrouper x = new BurstGrouper();
        x.add(0, 300, 1);
        x.add(0, 100, 1);
        x.add(1, 50, 1);
        x.add(0, 200, 1);
        x.advance(112);
        x.setLateness(20);
        x.add(0, 100, 1);
        Check.due("18: least first time", x.burstAt(0, 0), 1);
        Check.due("18: the same first time, higher number", x.burstAt(0, 1), 4);
        Check.due("18: next", x.burstAt(0, 2), 3);
        Check.due("18: last", x.burstAt(0, 3), 0);
        Check.due("18: another key", x.burstAt(1, 0), 2);
        Check.refusing("18: beyond", x, NO_ELEMENT, () -> x.burstAt(0, 4));
        Check.refusing("18: index -1", x, NO_ELEMENT, () -> x.burstAt(0, -1));
        Check.refusing("18: greatest index", x, NO_ELEMENT, () -> x.burstAt(0, Integer.MAX_VALUE));
        Check.refusing("18: a key without bursts", x, NO_ELEMENT, () -> x.burstAt(7, 0));
        Check.refusing("18: key -1", x, INDEX, () -> x.burstAt(-1, 0));
        Check.refusing("18: key 8", x, INDEX, () -> x.burstAt(8, -1));
        x.add(0, 95, 1);
        Check.due("18: the order follows the first times", x.burstAt(0, 0), 4);
    }

    private static void joined() {
        BurstGrouper x = new BurstGrouper();
        x.add(0, 120, 1);
        x.add(0, 100, 1);
        Check.due("19: both near, the lowest number", x.joined(0, 110), 0);
        Check.due("19: just reached from below", x.joined(0, 90), 1);
        Check.due("19: just reached from above", x.joined(0, 130), 0);
        Check.due("19: inside", x.joined(0, 100), 1);
        Check.refusing("19: too low", x, NO_ELEMENT, () -> x.joined(0, 89));
        Check.refusing("19: too high", x, NO_ELEMENT, () -> x.joined(0, 131));
        Check.refusing("19: another key", x, NO_ELEMENT, () -> x.joined(1, 100));
        Check.refusing("19: key 8 and a wrong time", x, INDEX, () -> x.joined(8, -1));
        Check.refusing("19: key -1", x, INDEX, () -> x.joined(-1, 0));
        Check.refusing("19: time -1", x, ARGUMENT, () -> x.joined(0, -1));
        Check.refusing("19: time 10000", x, ARGUMENT, () -> x.joined(0, 10000));
        Check.refusing("19: time 0", x, NO_ELEMENT, () -> x.joined(0, 0));
        Check.refusing("19: time 9999", x, NO_ELEMENT, () -> x.joined(0, 9999));
        x.advance(111);
        Check.due("19: a late time is asked as if it were not", x.joined(0, 110), 0);
        Check.refusing("19: a closed one is not joined", x, NO_ELEMENT, () -> x.joined(0, 100));
        x.setGap(0, 20);
        Check.due("19: with the present gap", x.joined(0, 100), 0);
    }

    private static void records() {
        BurstGrouper x = new BurstGrouper();
        x.add(0, 20, 1);
        x.add(1, 15, 99);
        x.add(0, 0, 2);
        x.add(0, 20, 3);
        x.add(0, 0, 4);
        x.add(0, 10, 5);
        x.add(0, 20, 6);
        x.add(0, 0, 7);
        int[][] due = {{0, 2}, {0, 4}, {0, 7}, {10, 5}, {20, 1}, {20, 3}, {20, 6}};
        for (int index = 0; index < due.length; index++) {
            Check.due("20: time " + index, x.record(0, index, true), due[index][0]);
            Check.due("20: value " + index, x.record(0, index, false), due[index][1]);
        }
        Check.refusing("20: index -1", x, NO_ELEMENT, () -> x.record(0, -1, true));
        Check.refusing("20: index 7", x, NO_ELEMENT, () -> x.record(0, 7, false));
        Check.refusing("20: greatest index", x, NO_ELEMENT, () -> x.record(0, Integer.MAX_VALUE, false));
        x.advance(20000);
        Check.due("20: of a closed burst", x.record(0, 3, false), 5);
        Check.due("20: of another burst", x.record(1, 0, false), 99);
    }

    private static void closesAt() {
        BurstGrouper x = new BurstGrouper();
        x.setGap(3, 20);
        x.add(3, 100, 1);
        x.add(3, 110, 1);
        Check.due("21: last time, gap, 1", x.closesAt(0), 131);
        x.setLateness(7);
        Check.due("21: lateness", x.closesAt(0), 138);
        Check.due("21: before it", x.advance(137), 0);
        x.setLateness(0);
        Check.due("21: below the watermark", x.closesAt(0), 131);
        Check.due("21: closes", x.advance(137), 1);
        Check.refusing("21: closed", x, STATE, () -> x.closesAt(0));
    }

    private static void nextClosing() {
        BurstGrouper x = new BurstGrouper();
        Check.refusing("22: no burst", x, NO_ELEMENT, x::nextClosing);
        x.setGap(1, 30);
        x.add(0, 100, 1);
        Check.due("22: the only one", x.nextClosing(), 0);
        x.add(1, 80, 1);
        Check.due("22: the same watermark, the lesser last time", x.nextClosing(), 1);
        x.add(2, 100, 1);
        x.advance(110);
        Check.due("22: still", x.nextClosing(), 1);
        x.add(1, 83, 1);
        Check.due("22: a late record changes nothing", x.nextClosing(), 1);
        x.setGap(1, 31);
        Check.due("22: the lower number", x.nextClosing(), 0);
        x.setGap(2, 9);
        Check.due("22: the least watermark, whatever the last time", x.nextClosing(), 2);
        x.advance(20000);
        Check.refusing("22: all are closed", x, NO_ELEMENT, x::nextClosing);
        BurstGrouper y = new BurstGrouper();
        y.setGap(0, 5);
        y.setGap(1, 50);
        y.add(0, 20, 1);
        y.add(1, 10, 1);
        Check.due("22: the lesser gap, and the greater last time", y.nextClosing(), 0);
        y.advance(26);
        Check.due("22: closed ones are passed over", y.nextClosing(), 1);
    }

    private static void averageLength() {
        BurstGrouper x = new BurstGrouper();
        x.add(0, 10, 1);
        x.add(0, 15, 1);
        Check.due("23: one", x.averageLength(0), 5.0);
        x.advance(26);
        x.add(0, 100, 1);
        x.add(0, 110, 1);
        x.add(0, 200, 1);
        x.add(1, 300, 1);
        x.add(1, 310, 1);
        Check.due("23: closed ones included", x.averageLength(0), 15.0 / 3.0);
        x.add(0, 201, 1);
        x.add(0, 203, 1);
        Check.due("23: no whole number", x.averageLength(0), 18.0 / 3.0);
        x.add(0, 204, 1);
        Check.due("23: a fraction", x.averageLength(0), 19.0 / 3.0);
        Check.refusing("23: no burst", x, ArithmeticException.class, () -> x.averageLength(2));
        Check.refusing("23: key -1", x, INDEX, () -> x.averageLength(-1));
        Check.refusing("23: key 8", x, INDEX, () -> x.averageLength(8));
    }

    private static void mergeCount() {
        BurstGrouper x = new BurstGrouper();
        x.add(0, 10, 1);
        Check.due("24: none", x.mergeCount(), 0);
        x.add(0, 12, 1);
        Check.due("24: joining is one", x.mergeCount(), 1);
        x.add(0, 30, 1);
        x.add(0, 22, 1);
        Check.due("24: between is two", x.mergeCount(), 3);
        Check.due("24: numbers used up", x.add(0, 100, 1), 4);
    }

    private static void regrouped() {
        BurstGrouper x = new BurstGrouper();
        Check.due("25: no record", x.regrouped(0), 0);
        x.add(0, 10, 1);
        x.add(0, 20, 1);
        x.advance(31);
        x.add(0, 31, 1);
        x.add(0, 60, 1);
        x.add(1, 25, 1);
        x.add(1, 45, 1);
        Check.due("25: now", x.regrouped(0), 3);
        x.setGap(0, 11);
        Check.due("25: a greater gap, also over closed ones", x.regrouped(0), 2);
        x.setGap(0, 29);
        Check.due("25: all in one", x.regrouped(0), 1);
        x.setGap(0, 9);
        Check.due("25: a lesser gap", x.regrouped(0), 4);
        Check.due("25: another key keeps its gap", x.regrouped(1), 1);
        x.add(0, 60, 5);
        Check.due("25: the same time twice", x.regrouped(0), 4);
        Check.refusing("25: key -1", x, INDEX, () -> x.regrouped(-1));
        Check.refusing("25: key 8", x, INDEX, () -> x.regrouped(8));
    }

    private static void questionsChangeNothing() {
        BurstGrouper x = twoMergedOneClosed();
        Check.changingNothing("13 to 25", x, () -> {
            x.burstCount();
            x.openCount();
            x.burst(1, 4);
            x.isClosed(1);
            x.isDirty(1);
            x.burstAt(0, 1);
            x.joined(0, 70);
            x.record(1, 2, true);
            x.closesAt(1);
            x.nextClosing();
            x.averageLength(0);
            x.mergeCount();
            x.regrouped(0);
        });
    }
}
