/** The boundary cases of promises 26 to 31: fire, firingCount, firing, firings, balance, standing. */
final class LogEdges {
    private static final Class<IndexOutOfBoundsException> INDEX = IndexOutOfBoundsException.class;
    private static final Class<IllegalArgumentException> ARGUMENT = IllegalArgumentException.class;

    private LogEdges() {
    }

    static void all(Sentences s) {
        s.test("26: Lets an open burst fire early", LogEdges::firesWhateverTheTriggerIs);
        s.test("26: Returns the number of firings that are added", LogEdges::addsNoneOneOrTwo);
        s.test("26: Returns the number of firings that are added", LogEdges::addsTwoToAFullLog);
        s.test("26: Throws `IndexOutOfBoundsException`", LogEdges::noBurstForFire);
        s.test("26: Throws `IllegalStateException`", LogEdges::closedForFire);
        s.test("27: Returns the number of firings in the log", LogEdges::countOfEachKind);
        s.test("27: Returns 0 to 60", LogEdges::countUpToSixty);
        s.test("28: Returns a number of a firing", LogEdges::outermostNumbers);
        s.test("28: `index`", LogEdges::indexFromTheOldest);
        s.test("28: `what`", LogEdges::eachWhat);
        s.test("28: Throws `IndexOutOfBoundsException`", LogEdges::noSuchFiring);
        s.test("28: Throws `IllegalArgumentException`", LogEdges::noSuchWhat);
        s.test("29: Returns how many firings of a kind", LogEdges::firingsBeyondTheLog);
        s.test("29: `kind`", LogEdges::kindsThatAreTaken);
        s.test("29: Throws `IllegalArgumentException`", LogEdges::kindsThatAreRefused);
        s.test("30: Returns the sum of the results of all firings", LogEdges::balanceAsALong);
        s.test("30: Returns the sum of the results of all firings", LogEdges::leastIntTakenBack);
        s.test("30: Returns the sum of the results of all firings", LogEdges::balanceBeyondTheLog);
        s.test("31: Returns the sum of the results of the last firings", LogEdges::standingAsALong);
        s.test("31: Returns the sum of the results of the last firings", LogEdges::standingByFirings);
        s.test("31: Returns the sum of the results of the last firings", LogEdges::standingBeyondTheLog);
    }

    private static void firesWhateverTheTriggerIs() {
        for (int trigger : new int[] {0, 1, 2, 10}) {
            BurstGrouper x = new BurstGrouper();
            x.add(0, 10, 5);
            x.setTrigger(trigger);
            Check.due("trigger " + trigger, x.fire(0), 1);
            Check.due("early", x.firing(0, 0), 0);
            Check.due("still open", x.isClosed(0), false);
        }
    }

    private static void addsNoneOneOrTwo() {
        BurstGrouper x = new BurstGrouper();
        x.add(0, 10, 5);
        Check.due("one", x.fire(0), 1);
        Check.due("none", x.fire(0), 0);
        Check.due("in the log", x.firingCount(), 1);
        x.add(0, 10, 5);
        Check.due("two", x.fire(0), 2);
        Check.due("none again", x.fire(0), 0);
        Check.due("in the log", x.firingCount(), 3);
    }

    private static void addsTwoToAFullLog() {
        BurstGrouper x = new BurstGrouper();
        x.setTrigger(1);
        for (int k = 0; k < 60; k++) {
            x.add(0, 20 * k, 1);
        }
        x.setTrigger(0);
        x.add(0, 0, 1);
        Check.due("two, though the log is full", x.fire(0), 2);
        Check.due("60 all the same", x.firingCount(), 60);
    }

    private static void noBurstForFire() {
        for (int burst : new int[] {-1, 1, 4, 5, 100, Integer.MIN_VALUE, Integer.MAX_VALUE}) {
            Check.refused("burst " + burst, Worked::some, INDEX, x -> x.fire(burst));
        }
        Check.refused("at first", BurstGrouper::new, INDEX, x -> x.fire(0));
    }

    private static void closedForFire() {
        Check.refused("closed", Worked::some, IllegalStateException.class, x -> x.fire(0));
        BurstGrouper x = new BurstGrouper();
        x.add(0, 10, 1);
        x.advance(20);
        Check.due("just not closed", x.fire(0), 1);
        x.advance(21);
        x.setFold(0, 2);
        Check.throwing("closed, though another result", IllegalStateException.class, () -> x.fire(0));
    }

    private static void countOfEachKind() {
        BurstGrouper x = new BurstGrouper();
        x.add(0, 10, 1);
        x.fire(0);
        Check.due("early", x.firingCount(), 1);
        x.add(0, 11, 1);
        x.advance(100);
        Check.due("retraction and final", x.firingCount(), 3);
    }

    private static void countUpToSixty() {
        BurstGrouper x = new BurstGrouper();
        Check.due("at first", x.firingCount(), 0);
        x.setTrigger(1);
        for (int k = 1; k <= 100; k++) {
            x.add(0, 20 * k, 1);
            Check.due("after " + k, x.firingCount(), Math.min(60, k));
        }
        x.advance(20000);
        Check.due("after 200", x.firingCount(), 60);
        x.reset();
        Check.due("after reset", x.firingCount(), 0);
    }

    private static void outermostNumbers() {
        BurstGrouper x = new BurstGrouper();
        x.add(7, 9999, Integer.MIN_VALUE);
        x.add(0, 0, Integer.MAX_VALUE);
        x.fire(0);
        x.fire(1);
        int[][] due = {{0, 0, Integer.MIN_VALUE, 9999, 9999, 7}, {0, 1, Integer.MAX_VALUE, 0, 0, 0}};
        for (int index = 0; index < 2; index++) {
            for (int what = 0; what < 6; what++) {
                Check.due(index + ", " + what, x.firing(index, what), due[index][what]);
            }
        }
    }

    private static void indexFromTheOldest() {
        BurstGrouper x = new BurstGrouper();
        x.setTrigger(1);
        for (int k = 0; k < 60; k++) {
            x.add(0, 20 * k, k);
        }
        Check.due("the oldest", x.firing(0, 1), 0);
        Check.due("the newest", x.firing(59, 1), 59);
        x.add(1, 0, 60);
        Check.due("the oldest that is held", x.firing(0, 1), 1);
        Check.due("the newest now", x.firing(59, 1), 60);
    }

    private static void eachWhat() {
        BurstGrouper x = Worked.some();
        int[][] due = {{0, 0, 2, 10, 30, 2}, {0, 3, 3, 90, 90, 0}, {1, 0, 2, 10, 30, 2}, {2, 3, 3, 90, 90, 0},
            {0, 3, 6, 90, 92, 0}};
        Check.due("firings", x.firingCount(), due.length);
        for (int index = 0; index < due.length; index++) {
            for (int what = 0; what < 6; what++) {
                Check.due(index + ", " + what, x.firing(index, what), due[index][what]);
            }
        }
    }

    private static void noSuchFiring() {
        for (int index : new int[] {-1, 5, 59, 60, Integer.MIN_VALUE, Integer.MAX_VALUE}) {
            Check.refused("index " + index, Worked::some, INDEX, x -> x.firing(index, 0));
        }
        Check.refused("at first", BurstGrouper::new, INDEX, x -> x.firing(0, 0));
    }

    private static void noSuchWhat() {
        for (int what : new int[] {-1, 6, Integer.MIN_VALUE, Integer.MAX_VALUE}) {
            Check.refused("what " + what, Worked::some, ARGUMENT, x -> x.firing(0, what));
        }
    }

    private static void firingsBeyondTheLog() {
        BurstGrouper x = new BurstGrouper();
        for (int kind = 0; kind < 3; kind++) {
            Check.due("none of kind " + kind, x.firings(kind), 0);
        }
        x.setTrigger(1);
        for (int k = 0; k < 100; k++) {
            x.add(0, 10, 1);
        }
        Check.due("early", x.firings(0), 100);
        Check.due("retractions", x.firings(2), 99);
        x.advance(100);
        Check.due("final", x.firings(1), 1);
        Check.due("in the log", x.firingCount(), 60);
    }

    private static void kindsThatAreTaken() {
        BurstGrouper x = Worked.some();
        Check.due("early", x.firings(0), 3);
        Check.due("final", x.firings(1), 1);
        Check.due("retractions", x.firings(2), 1);
    }

    private static void kindsThatAreRefused() {
        for (int kind : new int[] {-1, 3, Integer.MIN_VALUE, Integer.MAX_VALUE}) {
            Check.refused("kind " + kind, Worked::some, ARGUMENT, x -> x.firings(kind));
        }
    }

    private static BurstGrouper hundredClosed(int value) {
        BurstGrouper x = new BurstGrouper();
        for (int k = 0; k < 100; k++) {
            x.add(k % 8, 90 * k, value);
        }
        Check.due("nothing yet", x.balance(), 0L);
        Check.due("nothing stands", x.standing(), 0L);
        Check.due("all close", x.advance(20000), 100);
        return x;
    }

    private static void balanceAsALong() {
        Check.due("the greatest", hundredClosed(Integer.MAX_VALUE).balance(), 100L * Integer.MAX_VALUE);
        Check.due("the least", hundredClosed(Integer.MIN_VALUE).balance(), 100L * Integer.MIN_VALUE);
    }

    private static void leastIntTakenBack() {
        BurstGrouper x = new BurstGrouper();
        x.add(0, 10, Integer.MIN_VALUE);
        x.fire(0);
        Check.due("the least int", x.balance(), (long) Integer.MIN_VALUE);
        x.setFold(0, 3);
        x.fire(0);
        Check.due("taken back, and 1", x.balance(), 1L);
        x.setFold(0, 0);
        x.fire(0);
        x.advance(21);
        Check.due("early and final", x.balance(), 2L * Integer.MIN_VALUE);
    }

    private static void balanceBeyondTheLog() {
        BurstGrouper x = new BurstGrouper();
        x.setTrigger(1);
        long due = 0;
        for (int k = 1; k <= 100; k++) {
            x.add(0, 20 * k, k);
            due += k;
            Check.due("after " + k, x.balance(), due);
        }
    }

    private static void standingAsALong() {
        Check.due("the greatest", hundredClosed(Integer.MAX_VALUE).standing(), 100L * Integer.MAX_VALUE);
        Check.due("the least", hundredClosed(Integer.MIN_VALUE).standing(), 100L * Integer.MIN_VALUE);
    }

    private static void standingByFirings() {
        BurstGrouper x = new BurstGrouper();
        x.add(0, 10, 5);
        Check.due("not fired", x.standing(), 0L);
        x.fire(0);
        Check.due("fired", x.standing(), 5L);
        x.add(0, 10, 2);
        Check.due("as it was fired", x.standing(), 5L);
        x.fire(0);
        Check.due("the last one alone", x.standing(), 7L);
        x.advance(21);
        Check.due("the final one alone", x.standing(), 7L);
        x.reset();
        Check.due("after reset", x.standing(), 0L);
        x.add(0, 10, 3);
        Check.due("the number once more has not fired", x.standing(), 0L);
    }

    private static void standingBeyondTheLog() {
        BurstGrouper x = new BurstGrouper();
        x.setTrigger(1);
        for (int k = 0; k < 100; k++) {
            x.add(0, 20 * k, 3);
        }
        Check.due("firings that left the log stand", x.standing(), 300L);
    }
}
