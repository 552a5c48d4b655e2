/** Promises 1 to 6: a new object, setGap, setFold, setLateness, setTrigger, reset. */
public final class SettingsTest {
    private static final Class<IndexOutOfBoundsException> INDEX = IndexOutOfBoundsException.class;
    private static final Class<IllegalArgumentException> ARGUMENT = IllegalArgumentException.class;

    public static void main(String[] arguments) {
        newObject();
        gaps();
        gapsAndMerging();
        folds();
        foldsOfFiredBursts();
        lateness();
        trigger();
        triggerAndSameResult();
        reset();
        Check.end();
    }

    private static void newObject() {
        BurstGrouper x = new BurstGrouper();
        Check.due("1: recordCount", x.recordCount(), 0);
        Check.due("1: burstCount", x.burstCount(), 0);
        Check.due("1: openCount", x.openCount(), 0);
        Check.due("1: watermark", x.watermark(), 0);
        Check.due("1: lateCount", x.lateCount(), 0);
        Check.due("1: mergeCount", x.mergeCount(), 0);
        Check.due("1: firingCount", x.firingCount(), 0);
        Check.due("1: balance", x.balance(), 0);
        Check.due("1: standing", x.standing(), 0);
        Check.due("1: lateness", x.setLateness(3), 0);
        Check.due("1: trigger", x.setTrigger(3), 0);
        for (int key = 0; key < 8; key++) {
            Check.due("1: gap", x.setGap(key, 3), 10);
            Check.due("1: way", x.setFold(key, 3), 0);
        }
    }

    private static void gaps() {
        BurstGrouper x = new BurstGrouper();
        Check.due("2: first", x.setGap(7, 1), 10);
        Check.due("2: least", x.setGap(7, 50), 1);
        Check.due("2: greatest", x.setGap(7, 20), 50);
        Check.due("2: another key", x.setGap(6, 20), 10);
        Check.refusing("2: key -1", x, INDEX, () -> x.setGap(-1, 5));
        Check.refusing("2: key 8", x, INDEX, () -> x.setGap(8, 5));
        Check.refusing("2: both wrong", x, INDEX, () -> x.setGap(8, 51));
        Check.refusing("2: gap 0", x, ARGUMENT, () -> x.setGap(0, 0));
        Check.refusing("2: gap 51", x, ARGUMENT, () -> x.setGap(0, 51));
        Check.refusing("2: least int", x, INDEX, () -> x.setGap(Integer.MIN_VALUE, Integer.MIN_VALUE));
    }

    private static void gapsAndMerging() {
        BurstGrouper x = new BurstGrouper();
        x.add(0, 100, 1);
        x.add(0, 130, 2);
        x.add(1, 100, 3);
        x.setGap(0, 30);
        Check.due("2: merges none", x.burstCount(), 3);
        Check.due("2: a record of another key merges none", x.add(1, 100, 1), 2);
        Check.due("2: still", x.burstCount(), 3);
        Check.due("2: a record far away", x.add(0, 5000, 4), 4);
        Check.due("2: merges what could merge", x.burstCount(), 3);
        Check.due("2: into the lower number", x.burst(0, 2), 130);
        x.setGap(0, 1);
        x.add(0, 6000, 4);
        Check.due("2: divides none", x.burst(0, 3), 2);
        x.setGap(1, 50);
        Check.due("2: the new gap counts for advance, key 1 stays", x.advance(132), 1);
        Check.due("2: key 0 closed", x.isClosed(0), true);
        Check.due("2: key 1 open", x.isClosed(2), false);
    }

    private static void folds() {
        BurstGrouper x = new BurstGrouper();
        x.add(3, 10, Integer.MAX_VALUE);
        x.add(3, 12, 2);
        x.add(3, 11, -7);
        Check.due("3: sum at first, with wrapping", x.burst(0, 4), Integer.MAX_VALUE - 5);
        x.add(3, 11, 100);
        Check.due("3: wraps", x.burst(0, 4), Integer.MIN_VALUE + 94);
        Check.due("3: to greatest", x.setFold(3, 1), 0);
        Check.due("3: greatest", x.burst(0, 4), Integer.MAX_VALUE);
        Check.due("3: to least", x.setFold(3, 2), 1);
        Check.due("3: least", x.burst(0, 4), -7);
        Check.due("3: to count", x.setFold(3, 3), 2);
        Check.due("3: count", x.burst(0, 4), 4);
        Check.due("3: values are kept with count", x.record(0, 3, false), 2);
        Check.due("3: back", x.setFold(3, 0), 3);
        Check.due("3: another key", x.setFold(2, 1), 0);
        x.setFold(4, 1);
        x.add(4, 10, -5);
        Check.due("3: a greatest one below 0", x.burst(4, 4), -5);
        x.setFold(4, 2);
        Check.due("3: a least one", x.burst(4, 4), -5);
        Check.refusing("3: key -1", x, INDEX, () -> x.setFold(-1, 0));
        Check.refusing("3: key 8", x, INDEX, () -> x.setFold(8, 4));
        Check.refusing("3: way -1", x, ARGUMENT, () -> x.setFold(0, -1));
        Check.refusing("3: way 4", x, ARGUMENT, () -> x.setFold(0, 4));
    }

    private static void foldsOfFiredBursts() {
        BurstGrouper x = new BurstGrouper();
        x.add(0, 10, 4);
        x.add(0, 11, 6);
        x.advance(22);
        Check.due("3: fired with the sum", x.firing(0, 2), 10);
        x.setFold(0, 3);
        Check.due("3: the log stays", x.firing(0, 2), 10);
        Check.due("3: a closed burst has the new result", x.burst(0, 4), 2);
        Check.due("3: and is dirty", x.isDirty(0), true);
        Check.due("3: standing stays", x.standing(), 10);
    }

    private static void lateness() {
        BurstGrouper x = new BurstGrouper();
        Check.due("4: first", x.setLateness(100), 0);
        Check.due("4: greatest", x.setLateness(0), 100);
        Check.refusing("4: -1", x, ARGUMENT, () -> x.setLateness(-1));
        Check.refusing("4: 101", x, ARGUMENT, () -> x.setLateness(101));
        x.setLateness(20);
        x.add(0, 10, 1);
        Check.due("4: keeps a burst open", x.advance(40), 0);
        Check.due("4: back", x.setLateness(0), 20);
        Check.due("4: closes nothing before the next advance", x.openCount(), 1);
        Check.due("4: which may be to the present watermark", x.advance(40), 1);
    }

    private static void trigger() {
        BurstGrouper x = new BurstGrouper();
        Check.due("5: first", x.setTrigger(10), 0);
        Check.due("5: greatest", x.setTrigger(0), 10);
        Check.refusing("5: -1", x, ARGUMENT, () -> x.setTrigger(-1));
        Check.refusing("5: 11", x, ARGUMENT, () -> x.setTrigger(11));
        x.add(0, 1, 1);
        Check.due("5: 0 fires nothing", x.firingCount(), 0);
        x.setTrigger(3);
        x.add(0, 2, 1);
        Check.due("5: two records", x.firingCount(), 0);
        x.add(0, 3, 1);
        Check.due("5: three records", x.firingCount(), 1);
        Check.due("5: early", x.firing(0, 0), 0);
        Check.due("5: behind the record", x.firing(0, 2), 3);
        x.add(0, 4, 1);
        x.add(0, 5, 1);
        Check.due("5: five records", x.firingCount(), 1);
        x.add(0, 6, 1);
        Check.due("5: six records, with a retraction", x.firingCount(), 3);
        x.setTrigger(1);
        x.add(1, 6, 1);
        Check.due("5: 1 fires always", x.firingCount(), 4);
        x.advance(10);
        x.add(1, 6, 1);
        Check.due("5: not for a late record", x.firingCount(), 4);
    }

    private static void triggerAndSameResult() {
        BurstGrouper x = new BurstGrouper();
        x.setTrigger(1);
        x.setFold(0, 1);
        x.add(0, 10, 5);
        x.add(0, 10, 5);
        Check.due("5: nothing is different, no firing", x.firingCount(), 1);
        x.add(0, 11, 5);
        Check.due("5: another last time", x.firingCount(), 3);
        x.add(0, 9, 4);
        Check.due("5: another first time", x.firingCount(), 5);
        x.add(0, 10, 6);
        Check.due("5: another result", x.firingCount(), 7);
        Check.due("5: firings without retractions", x.burst(0, 5), 4);
    }

    private static void reset() {
        BurstGrouper x = new BurstGrouper();
        String fresh = Picture.of(x);
        Check.due("6: nothing to remove", x.reset(), 0);
        x.setGap(2, 20);
        x.setFold(3, 2);
        x.setLateness(5);
        x.setTrigger(1);
        x.add(2, 10, 1);
        x.add(2, 20, 2);
        x.add(3, 20, 2);
        x.advance(70);
        x.add(3, 2, 2);
        Check.due("6: records that were kept", x.reset(), 3);
        Check.due("6: all as at first", Picture.of(x), fresh);
        Check.due("6: numbers begin again", x.add(0, 10, 1), 0);
        Check.due("6: a number that was closed before is open", x.isClosed(0), false);
        Check.due("6: and has not fired", x.burst(0, 5), 0);
        Check.due("6: nor counts as having fired", x.standing(), 0);
        x.save();
        x.append('w');
        x.append('x');
        Check.throwing("6: a wrong text", ARGUMENT, x::read);
        x.append('w');
        Check.due("6: again", x.reset(), 1);
        Check.due("6: the input stays", x.append('9'), 2);
        Check.due("6: the error position stays", x.errorPosition(), 1);
        Check.due("6: what was saved stays", x.restore(), 1);
        Check.due("6: and comes back", x.burst(0, 4), 1);
    }
}
