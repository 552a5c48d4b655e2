/** Promises 7 to 12: add, advance, watermark, lateCount, isLate, recordCount. */
public final class RecordsTest {
    private static final Class<IndexOutOfBoundsException> INDEX = IndexOutOfBoundsException.class;
    private static final Class<IllegalArgumentException> ARGUMENT = IllegalArgumentException.class;
    private static final Class<IllegalStateException> STATE = IllegalStateException.class;

    public static void main(String[] arguments) {
        joining();
        mergingInOrder();
        mergingAfterAGreaterGap();
        mergingOfFiredBursts();
        earlyFiringBehindMerging();
        closedBursts();
        lateRecords();
        fullOfRecords();
        fullInOneBurst();
        wrongRecords();
        closingInOrder();
        finalFirings();
        wrongWatermarks();
        Check.end();
    }

    private static void joining() {
        BurstGrouper x = new BurstGrouper();
        Check.due("7: forms", x.add(0, 100, 1), 0);
        Check.due("7: the gap is just reached", x.add(0, 110, 2), 0);
        Check.due("7: one more is too far", x.add(0, 121, 3), 2);
        Check.due("7: before, just reached", x.add(0, 90, 4), 0);
        Check.due("7: before, too far", x.add(0, 79, 5), 4);
        Check.due("7: inside", x.add(0, 105, 6), 0);
        Check.due("7: another key", x.add(7, 105, 6), 6);
        Check.due("7: each joining is a merge", x.mergeCount(), 3);
        Check.due("7: bursts", x.burstCount(), 4);
        Check.due("7: time 0", x.add(1, 0, Integer.MIN_VALUE), 7);
        Check.due("7: time 9999", x.add(1, 9999, Integer.MAX_VALUE), 8);
        Check.due("12: records", x.recordCount(), 9);
    }

    private static void mergingInOrder() {
        BurstGrouper x = new BurstGrouper();
        x.add(0, 130, 1);
        x.add(0, 100, 2);
        Check.due("7: between two", x.add(0, 115, 4), 2);
        x.setGap(0, 15);
        Check.due("7: joins all to the lowest number", x.add(0, 116, 8), 0);
        Check.due("7: one burst", x.burstCount(), 1);
        Check.due("7: three merges", x.mergeCount(), 3);
        Check.due("7: the lesser first time", x.burst(0, 1), 100);
        Check.due("7: the greater last time", x.burst(0, 2), 130);
        Check.due("7: all records", x.burst(0, 4), 15);
        Check.throwing("7: a number that vanished", INDEX, () -> x.burst(1, 0));
        Check.due("7: numbers are not used again", x.add(0, 1000, 8), 4);
    }

    private static void mergingAfterAGreaterGap() {
        BurstGrouper x = new BurstGrouper();
        x.setTrigger(1);
        // 0 at 100, 1 at 160, 2 at 120, 3 at 140: with a gap of 20, 0 takes 2, then 3, then 1.
        x.add(0, 100, 1);
        x.add(0, 160, 2);
        x.add(0, 120, 4);
        x.add(0, 140, 8);
        x.setTrigger(0);
        x.setGap(0, 20);
        Check.due("7: far from all", x.add(0, 9000, 1), 4);
        Check.due("7: merged", x.burstCount(), 2);
        Check.due("7: four firings and three retractions", x.firingCount(), 7);
        Check.due("7: retracted first", x.firing(4, 1), 2);
        Check.due("7: then", x.firing(5, 1), 3);
        Check.due("7: and then", x.firing(6, 1), 1);
        Check.due("7: the lowest stays as fired", x.standing(), 1);
        BurstGrouper y = new BurstGrouper();
        y.setTrigger(1);
        // 1 and 2 touch each other, and so do 0 and 3: 0 comes first, for its number is least.
        y.add(0, 500, 1);
        y.add(0, 100, 2);
        y.add(0, 120, 4);
        y.add(0, 520, 8);
        y.setTrigger(0);
        y.setGap(0, 20);
        y.add(0, 9000, 1);
        Check.due("7: the pair with the least lower number", y.firing(4, 1), 3);
        Check.due("7: the other pair", y.firing(5, 1), 2);
    }

    private static void mergingOfFiredBursts() {
        BurstGrouper x = new BurstGrouper();
        x.add(0, 100, 3);
        x.add(0, 120, 4);
        x.fire(0);
        x.fire(1);
        Check.due("7: between", x.add(0, 110, 5), 0);
        Check.due("7: only the one that vanished is retracted", x.firingCount(), 3);
        Check.due("7: kind", x.firing(2, 0), 2);
        Check.due("7: burst", x.firing(2, 1), 1);
        Check.due("7: the result as fired", x.firing(2, 2), 4);
        Check.due("7: first time", x.firing(2, 3), 120);
        Check.due("7: last time", x.firing(2, 4), 120);
        Check.due("7: standing", x.standing(), 3);
        Check.due("7: its firings are its own", x.burst(0, 5), 1);
        Check.due("7: it counts as fired, but dirty", x.isDirty(0), true);
        Check.due("7: it retracts when it fires again", x.fire(0), 2);
        Check.due("7: what it retracts", x.firing(3, 2), 3);
        Check.due("7: its new result", x.firing(4, 2), 12);
        BurstGrouper y = new BurstGrouper();
        y.add(0, 100, 3);
        y.add(0, 120, 4);
        y.add(0, 110, 5);
        Check.due("7: bursts that have not fired vanish silently", y.firingCount(), 0);
    }

    private static void earlyFiringBehindMerging() {
        BurstGrouper x = new BurstGrouper();
        x.add(0, 100, 3);
        x.add(0, 120, 4);
        x.fire(0);
        x.fire(1);
        x.setTrigger(3);
        x.add(0, 110, 5);
        Check.due("7: retraction, retraction, early", x.firingCount(), 5);
        Check.due("7: of the vanished one first", x.firing(2, 1), 1);
        Check.due("7: then of the one that stays", x.firing(3, 1), 0);
        Check.due("7: which is a retraction", x.firing(3, 0), 2);
        Check.due("7: then early", x.firing(4, 0), 0);
        Check.due("7: with all records", x.firing(4, 2), 12);
    }

    private static void closedBursts() {
        BurstGrouper x = new BurstGrouper();
        x.add(0, 100, 1);
        x.advance(111);
        Check.due("7: closed", x.isClosed(0), true);
        x.setLateness(50);
        Check.due("7: a closed burst never merges", x.add(0, 100, 2), 1);
        Check.due("7: nor later", x.add(0, 105, 2), 1);
        Check.due("7: it stays as it was", x.burst(0, 3), 1);
        Check.due("7: bursts", x.burstCount(), 2);
    }

    private static void lateRecords() {
        BurstGrouper x = new BurstGrouper();
        x.advance(100);
        Check.changingNothing("11: isLate", x, () -> x.isLate(5));
        Check.due("11: below the watermark", x.isLate(99), true);
        Check.due("11: equal", x.isLate(100), false);
        Check.due("11: least int", x.isLate(Integer.MIN_VALUE), true);
        Check.due("11: greatest int", x.isLate(Integer.MAX_VALUE), false);
        Check.due("7: late", x.add(0, 99, 1), -1);
        Check.due("10: counted", x.lateCount(), 1);
        Check.due("12: not kept", x.recordCount(), 0);
        Check.due("13: forms no burst", x.burstCount(), 0);
        Check.due("7: not late, and no number was used", x.add(0, 100, 1), 0);
        x.setLateness(10);
        Check.due("11: with lateness, equal", x.isLate(90), false);
        Check.due("11: with lateness, below", x.isLate(89), true);
        Check.due("11: greatest int with lateness", x.isLate(Integer.MAX_VALUE), false);
        Check.due("11: least int with lateness", x.isLate(Integer.MIN_VALUE), true);
        Check.due("7: equal with lateness", x.add(0, 90, 1), 0);
        Check.due("7: below with lateness", x.add(0, 89, 1), -1);
        Check.due("10: counted again", x.lateCount(), 2);
    }

    private static void fullOfRecords() {
        BurstGrouper x = new BurstGrouper();
        x.advance(50);
        for (int k = 0; k < 99; k++) {
            x.add(k % 8, 9000 - 90 * k, k);
        }
        Check.due("7: the 100th record", x.add(0, 9999, 1), 99);
        Check.due("12: 100 records", x.recordCount(), 100);
        Check.refusing("7: the 101st", x, STATE, () -> x.add(0, 9999, 1));
        Check.refusing("7: the key first", x, INDEX, () -> x.add(8, 9999, 1));
        Check.refusing("7: the time before that", x, ARGUMENT, () -> x.add(0, 10000, 1));
        Check.due("7: a late one is counted all the same", x.add(0, 49, 1), -1);
        Check.due("10: counted", x.lateCount(), 1);
        Check.due("8: all close", x.advance(20000), 100);
        Check.due("12: closed ones count", x.recordCount(), 100);
        Check.due("27: the log holds the last 60", x.firingCount(), 60);
        Check.due("28: the oldest of them", x.firing(0, 4), 3780);
        Check.due("6: all are removed", x.reset(), 100);
        Check.due("7: and there is room", x.add(0, 1, 1), 0);
    }

    private static void fullInOneBurst() {
        BurstGrouper x = new BurstGrouper();
        for (int k = 99; k >= 0; k--) {
            Check.due("7: all in one", x.add(0, 20 * k, k), 99 - k);
        }
        Check.due("20: the first of a hundred", x.burstAt(0, 0), 99);
        x.reset();
        for (int k = 99; k > 0; k--) {
            x.add(0, 20 * k, k);
        }
        x.setGap(0, 20);
        Check.due("7: 99 merges at once", x.add(0, 0, 0), 0);
        Check.due("24: 99 merges", x.mergeCount(), 99);
        Check.due("13: one burst", x.burstCount(), 1);
        for (int k = 0; k < 100; k++) {
            Check.due("20: time " + k, x.record(0, k, true), 20 * k);
            Check.due("20: value " + k, x.record(0, k, false), k);
        }
    }

    private static void wrongRecords() {
        BurstGrouper x = new BurstGrouper();
        x.add(0, 10, 1);
        x.advance(15);
        Check.refusing("7: key -1", x, INDEX, () -> x.add(-1, 10, 1));
        Check.refusing("7: key 8 and a wrong time", x, INDEX, () -> x.add(8, -1, 1));
        Check.refusing("7: time -1, which would be late", x, ARGUMENT, () -> x.add(0, -1, 1));
        Check.refusing("7: time 10000", x, ARGUMENT, () -> x.add(0, 10000, 1));
        Check.due("10: none of them counted", x.lateCount(), 0);
    }

    private static void closingInOrder() {
        BurstGrouper x = new BurstGrouper();
        x.setGap(1, 50);
        x.add(1, 60, 1);
        x.add(0, 80, 2);
        x.add(2, 70, 4);
        x.add(3, 70, 8);
        Check.due("8: at the reach, nothing", x.advance(80), 0);
        Check.due("8: one beyond, two of them", x.advance(81), 2);
        Check.due("8: the lower number first", x.firing(0, 1), 2);
        Check.due("8: then the other", x.firing(1, 1), 3);
        Check.due("9: watermark", x.watermark(), 81);
        Check.due("8: the rest", x.advance(200), 2);
        Check.due("8: by last times, not by closing", x.firing(2, 1), 0);
        Check.due("8: then", x.firing(3, 1), 1);
        Check.due("8: the same once more", x.advance(200), 0);
        Check.due("8: to the greatest", x.advance(20000), 0);
        Check.due("9: the greatest", x.watermark(), 20000);
        BurstGrouper y = new BurstGrouper();
        y.setLateness(5);
        y.add(0, 10, 1);
        Check.due("8: lateness counts", y.advance(25), 0);
        Check.due("8: one more", y.advance(26), 1);
    }

    private static void finalFirings() {
        BurstGrouper x = new BurstGrouper();
        x.add(0, 10, 1);
        x.add(1, 12, 2);
        x.add(2, 14, 4);
        x.fire(0);
        x.fire(1);
        x.add(1, 13, 8);
        Check.due("8: three close", x.advance(100), 3);
        Check.due("8: firings", x.firingCount(), 6);
        Check.due("8: without a retraction if nothing is different", x.firing(2, 0), 1);
        Check.due("8: retraction", x.firing(3, 0), 2);
        Check.due("8: of what was fired", x.firing(3, 2), 2);
        Check.due("8: final", x.firing(4, 0), 1);
        Check.due("8: with the new result", x.firing(4, 2), 10);
        Check.due("8: one that had not fired", x.firing(5, 1), 2);
        Check.due("15: firings include the final one", x.burst(0, 5), 2);
        Check.due("17: clean", x.isDirty(1), false);
    }

    private static void wrongWatermarks() {
        BurstGrouper x = new BurstGrouper();
        Check.refusing("8: -1", x, ARGUMENT, () -> x.advance(-1));
        Check.due("8: 0 at first", x.advance(0), 0);
        x.add(0, 10, 1);
        x.advance(10);
        Check.refusing("8: less", x, ARGUMENT, () -> x.advance(9));
        Check.refusing("8: 20001", x, ARGUMENT, () -> x.advance(20001));
        Check.refusing("8: greatest int", x, ARGUMENT, () -> x.advance(Integer.MAX_VALUE));
        Check.due("9: stays", x.watermark(), 10);
        Check.changingNothing("9 to 12", x, () -> {
            x.watermark();
            x.lateCount();
            x.recordCount();
        });
    }
}
