/** Promises 26 to 31: fire, firingCount, firing, firings, balance, standing. */
public final class FiringsTest {
    private static final Class<IndexOutOfBoundsException> INDEX = IndexOutOfBoundsException.class;
    private static final Class<IllegalArgumentException> ARGUMENT = IllegalArgumentException.class;
    private static final Class<IllegalStateException> STATE = IllegalStateException.class;

    public static void main(String[] arguments) {
        fire();
        entries();
        fullLog();
        sums();
        greatSums();
        wayBetweenFirings();
        Check.end();
    }

    private static void fire() {
        BurstGrouper x = new BurstGrouper();
        x.add(4, 10, 5);
        Check.due("26: the first time", x.fire(0), 1);
        Check.due("26: nothing is different", x.fire(0), 0);
        Check.due("27: one", x.firingCount(), 1);
        Check.due("15: one firing", x.burst(0, 5), 1);
        x.add(4, 12, 6);
        Check.due("26: with a retraction", x.fire(0), 2);
        Check.due("27: three", x.firingCount(), 3);
        Check.due("15: retractions not included", x.burst(0, 5), 2);
        x.setTrigger(7);
        x.add(4, 12, 6);
        Check.due("26: whatever the trigger is", x.fire(0), 2);
        x.advance(23);
        Check.refusing("26: closed", x, STATE, () -> x.fire(0));
        Check.refusing("26: none", x, INDEX, () -> x.fire(1));
        Check.due("15: with the final one", x.burst(0, 5), 4);
    }

    private static void entries() {
        BurstGrouper x = new BurstGrouper();
        x.add(4, 10, 5);
        x.fire(0);
        x.add(4, 12, 6);
        x.fire(0);
        x.advance(50);
        int[][] due = {{0, 0, 5, 10, 10, 4}, {2, 0, 5, 10, 10, 4}, {0, 0, 11, 10, 12, 4}, {1, 0, 11, 10, 12, 4}};
        Check.due("27: four", x.firingCount(), 4);
        for (int index = 0; index < 4; index++) {
            for (int what = 0; what < 6; what++) {
                Check.due("28: " + index + " " + what, x.firing(index, what), due[index][what]);
            }
        }
        Check.refusing("28: index -1", x, INDEX, () -> x.firing(-1, 0));
        Check.refusing("28: index 4", x, INDEX, () -> x.firing(4, 0));
        Check.refusing("28: both wrong", x, INDEX, () -> x.firing(4, 6));
        Check.refusing("28: what -1", x, ARGUMENT, () -> x.firing(0, -1));
        Check.refusing("28: what 6", x, ARGUMENT, () -> x.firing(0, 6));
        Check.due("29: early", x.firings(0), 2);
        Check.due("29: final", x.firings(1), 1);
        Check.due("29: retractions", x.firings(2), 1);
        Check.refusing("29: -1", x, ARGUMENT, () -> x.firings(-1));
        Check.refusing("29: 3", x, ARGUMENT, () -> x.firings(3));
        Check.changingNothing("27 to 31", x, () -> {
            x.firingCount();
            x.firing(0, 0);
            x.firings(0);
            x.balance();
            x.standing();
        });
    }

    private static void fullLog() {
        BurstGrouper x = new BurstGrouper();
        x.setTrigger(1);
        for (int k = 0; k < 30; k++) {
            x.add(0, 10 + k, 1);
        }
        Check.due("27: 59 firings", x.firingCount(), 59);
        x.add(1, 10, 77);
        Check.due("27: 60 firings", x.firingCount(), 60);
        Check.due("28: the first one is there", x.firing(0, 4), 10);
        x.add(2, 10, 78);
        Check.due("27: still 60", x.firingCount(), 60);
        Check.due("28: the first one is gone", x.firing(0, 0), 2);
        Check.due("28: the last one", x.firing(59, 2), 78);
        Check.due("28: the one before", x.firing(58, 2), 77);
        Check.throwing("28: index 60", INDEX, () -> x.firing(60, 0));
        x.add(0, 40, 1);
        Check.due("28: two more", x.firing(59, 2), 31);
        Check.due("28: a retraction before", x.firing(58, 2), 30);
        Check.due("28: two less", x.firing(0, 0), 2);
        Check.due("28: of the second firing", x.firing(0, 4), 11);
        Check.due("29: all that were", x.firings(0), 33);
        Check.due("29: all retractions that were", x.firings(2), 30);
        Check.due("30: also of those that left the log", x.balance(), 31 + 77 + 78);
        Check.due("31: standing", x.standing(), 31 + 77 + 78);
    }

    private static void sums() {
        BurstGrouper x = new BurstGrouper();
        x.add(0, 10, 5);
        x.add(1, 10, 7);
        x.add(2, 10, 9);
        x.fire(0);
        x.fire(1);
        Check.due("30: two", x.balance(), 12);
        Check.due("31: two", x.standing(), 12);
        x.add(0, 10, 1);
        Check.due("30: before firing again", x.balance(), 12);
        Check.due("31: as fired", x.standing(), 12);
        x.fire(0);
        Check.due("30: corrected", x.balance(), 13);
        x.advance(50);
        Check.due("30: final ones come to the early ones", x.balance(), 13 + 6 + 7 + 9);
        Check.due("31: closed ones count", x.standing(), 6 + 7 + 9);
        x.add(3, 100, 4);
        x.add(3, 120, 8);
        x.fire(5);
        Check.due("31: one more", x.standing(), 22 + 8);
        x.add(3, 110, 16);
        Check.due("31: a vanished one counts no more", x.standing(), 22);
        Check.due("30: it was retracted", x.balance(), 35);
    }

    private static void greatSums() {
        BurstGrouper x = new BurstGrouper();
        x.add(0, 10, Integer.MAX_VALUE);
        x.add(1, 10, Integer.MAX_VALUE);
        x.fire(0);
        x.fire(1);
        Check.due("30: as a long", x.balance(), 2L * Integer.MAX_VALUE);
        Check.due("31: as a long", x.standing(), 2L * Integer.MAX_VALUE);
        BurstGrouper y = new BurstGrouper();
        y.add(0, 10, Integer.MIN_VALUE);
        y.fire(0);
        Check.due("30: least", y.balance(), Integer.MIN_VALUE);
        y.add(0, 10, 1);
        y.fire(0);
        Check.due("30: the least int taken back", y.balance(), Integer.MIN_VALUE + 1);
        Check.due("31: least and one", y.standing(), Integer.MIN_VALUE + 1);
    }

    private static void wayBetweenFirings() {
        BurstGrouper x = new BurstGrouper();
        x.add(0, 10, 5);
        x.add(0, 11, 3);
        x.fire(0);
        x.setFold(0, 2);
        Check.due("26: another way is another result", x.fire(0), 2);
        Check.due("28: retracts the sum", x.firing(1, 2), 8);
        Check.due("28: the least", x.firing(2, 2), 3);
        x.setFold(0, 3);
        x.advance(100);
        Check.due("28: the final one corrects it too", x.firing(3, 0), 2);
        Check.due("28: the number", x.firing(4, 2), 2);
    }
}
