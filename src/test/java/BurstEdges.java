import java.util.NoSuchElementException;

/** The boundary cases of promises 13 to 17, 20, 21 and 24: what is told of the bursts by their numbers. */
final class BurstEdges {
    private static final Class<IndexOutOfBoundsException> INDEX = IndexOutOfBoundsException.class;
    private static final Class<IllegalArgumentException> ARGUMENT = IllegalArgumentException.class;
    private static final Class<NoSuchElementException> NO_ELEMENT = NoSuchElementException.class;
    /** In Worked.some, 1 and 4 vanished, and 5 is the next number. */
    private static final int[] NO_BURSTS = {-1, 1, 4, 5, 99, 100, Integer.MIN_VALUE, Integer.MAX_VALUE};

    private BurstEdges() {
    }

    static void all(Sentences s) {
        s.test("13: Returns the number of bursts that there are", BurstEdges::burstsOfAllKinds);
        s.test("14: Returns the number of bursts that are not closed", BurstEdges::openBursts);
        s.test("15: Returns a number of a burst", BurstEdges::numbersOfTheOutermost);
        s.test("15: `what`", BurstEdges::eachWhat);
        s.test("15: `what`", BurstEdges::firingsWithoutRetractions);
        s.test("15: Throws `IndexOutOfBoundsException`", BurstEdges::noBurstForBurst);
        s.test("15: Throws `IllegalArgumentException`", BurstEdges::noSuchWhat);
        s.test("16: Returns whether a burst is closed", BurstEdges::closedFromTheFinalFiringOn);
        s.test("16: Throws `IndexOutOfBoundsException`", BurstEdges::noBurstForIsClosed);
        s.test("17: Returns whether the result or the times", BurstEdges::dirtyByOneDifference);
        s.test("17: Returns whether the result or the times", BurstEdges::dirtyWithoutAFiring);
        s.test("17: Throws `IndexOutOfBoundsException`", BurstEdges::noBurstForIsDirty);
        s.test("20: Returns a value of a burst", BurstEdges::recordsOfEachBurstAlone);
        s.test("20: `index`", BurstEdges::firstAndLastRecord);
        s.test("20: `isTime`", BurstEdges::timeOrValue);
        s.test("20: Throws `IndexOutOfBoundsException`", BurstEdges::noBurstForRecord);
        s.test("20: Throws `NoSuchElementException`", BurstEdges::noSuchRecord);
        s.test("21: Returns the least watermark", BurstEdges::closesJustThen);
        s.test("21: Throws `IndexOutOfBoundsException`", BurstEdges::noBurstForClosesAt);
        s.test("21: Throws `IllegalStateException`", BurstEdges::closedForClosesAt);
        s.test("24: Returns the number of merges", BurstEdges::mergesOfAllKinds);
    }

    private static void burstsOfAllKinds() {
        BurstGrouper x = new BurstGrouper();
        Check.due("none", x.burstCount(), 0);
        x.add(0, 100, 1);
        x.add(0, 120, 1);
        Check.due("two", x.burstCount(), 2);
        x.add(0, 110, 1);
        Check.due("vanished ones not", x.burstCount(), 1);
        x.advance(20000);
        Check.due("closed ones included", x.burstCount(), 1);
        BurstGrouper y = new BurstGrouper();
        for (int k = 0; k < 100; k++) {
            y.add(k % 8, 90 * k, 1);
        }
        Check.due("a hundred", y.burstCount(), 100);
        y.advance(20000);
        Check.due("a hundred closed ones", y.burstCount(), 100);
    }

    private static void openBursts() {
        BurstGrouper x = new BurstGrouper();
        Check.due("none", x.openCount(), 0);
        for (int k = 0; k < 100; k++) {
            x.add(k % 8, 90 * k, 1);
        }
        Check.due("a hundred", x.openCount(), 100);
        x.advance(11);
        Check.due("all but one", x.openCount(), 99);
        x.advance(20000);
        Check.due("none any more", x.openCount(), 0);
    }

    private static void numbersOfTheOutermost() {
        BurstGrouper x = new BurstGrouper();
        for (int k = 0; k < 100; k++) {
            x.add(k % 8, 90 * k, k);
        }
        int[][] due = {{0, 0, 0, 1, 0, 0}, {3, 8910, 8910, 1, 99, 0}};
        for (int what = 0; what < 6; what++) {
            Check.due("the first, " + what, x.burst(0, what), due[0][what]);
            Check.due("the last, " + what, x.burst(99, what), due[1][what]);
        }
    }

    private static void eachWhat() {
        BurstGrouper x = Worked.some();
        int[][] due = {{0, 2, 10, 30, 2, 2, 2}, {2, 2, 90, 90, 1, 3, 0}, {3, 0, 90, 92, 2, 6, 2}};
        for (int[] row : due) {
            for (int what = 0; what < 6; what++) {
                Check.due("burst " + row[0] + ", " + what, x.burst(row[0], what), row[what + 1]);
            }
        }
    }

    private static void firingsWithoutRetractions() {
        BurstGrouper x = new BurstGrouper();
        x.setTrigger(1);
        for (int k = 1; k <= 100; k++) {
            x.add(0, 10, 1);
            Check.due("firings", x.burst(0, 5), k);
        }
        x.advance(1000);
        Check.due("and the final one", x.burst(0, 5), 101);
    }

    private static void noBurstForBurst() {
        for (int burst : NO_BURSTS) {
            Check.refused("burst " + burst, Worked::some, INDEX, x -> x.burst(burst, 0));
        }
        Check.refused("burst 0 at first", BurstGrouper::new, INDEX, x -> x.burst(0, 0));
        Check.refused("burst 100", Worked::fullOfRecords, INDEX, x -> x.burst(100, 0));
    }

    private static void noSuchWhat() {
        for (int what : new int[] {-1, 6, Integer.MIN_VALUE, Integer.MAX_VALUE}) {
            Check.refused("what " + what, Worked::some, ARGUMENT, x -> x.burst(2, what));
        }
    }

    private static void closedFromTheFinalFiringOn() {
        BurstGrouper x = new BurstGrouper();
        x.add(0, 10, 1);
        Check.due("open", x.isClosed(0), false);
        x.fire(0);
        Check.due("an early firing closes none", x.isClosed(0), false);
        x.advance(20);
        Check.due("just not", x.isClosed(0), false);
        x.advance(21);
        Check.due("closed", x.isClosed(0), true);
    }

    private static void noBurstForIsClosed() {
        for (int burst : NO_BURSTS) {
            Check.refused("burst " + burst, Worked::some, INDEX, x -> x.isClosed(burst));
        }
    }

    private static void dirtyByOneDifference() {
        int[][] records = {{12, 6}, {9, 1}, {15, 1}, {12, 5}};
        for (int[] record : records) {
            BurstGrouper x = new BurstGrouper();
            x.setFold(0, 1);
            x.add(0, 10, 5);
            x.add(0, 14, 3);
            x.fire(0);
            Check.due("clean", x.isDirty(0), false);
            x.add(0, record[0], record[1]);
            Check.due("after " + record[0] + ", " + record[1], x.isDirty(0), record[1] != 5);
        }
        BurstGrouper y = new BurstGrouper();
        y.add(0, 10, 5);
        y.advance(21);
        Check.due("closed and clean", y.isDirty(0), false);
        y.setFold(0, 3);
        Check.due("closed and dirty by another way", y.isDirty(0), true);
    }

    private static void dirtyWithoutAFiring() {
        BurstGrouper x = new BurstGrouper();
        x.add(0, 0, 0);
        Check.due("with result and times 0", x.isDirty(0), true);
        x.fire(0);
        Check.due("fired", x.isDirty(0), false);
        x.reset();
        x.add(0, 0, 0);
        Check.due("the number once more", x.isDirty(0), true);
    }

    private static void noBurstForIsDirty() {
        for (int burst : NO_BURSTS) {
            Check.refused("burst " + burst, Worked::some, INDEX, x -> x.isDirty(burst));
        }
    }

    private static void recordsOfEachBurstAlone() {
        BurstGrouper x = new BurstGrouper();
        x.add(1, 10, 1);
        x.add(0, 10, 2);
        x.add(1, 10, 3);
        x.add(0, 100, 4);
        Check.due("of 0", x.record(0, 1, false), 3);
        Check.due("of 1", x.record(1, 0, false), 2);
        Check.due("of 3", x.record(3, 0, false), 4);
        Check.throwing("1 has one alone", NO_ELEMENT, () -> x.record(1, 1, false));
    }

    private static void firstAndLastRecord() {
        BurstGrouper x = new BurstGrouper();
        for (int k = 0; k < 100; k++) {
            x.add(0, 99 - k, k);
        }
        Check.due("the first time", x.record(0, 0, true), 0);
        Check.due("the first value", x.record(0, 0, false), 99);
        Check.due("the last time", x.record(0, 99, true), 99);
        Check.due("the last value", x.record(0, 99, false), 0);
        Check.throwing("one beyond", NO_ELEMENT, () -> x.record(0, 100, true));
    }

    private static void timeOrValue() {
        BurstGrouper x = new BurstGrouper();
        x.add(0, 9999, Integer.MIN_VALUE);
        x.add(1, 0, Integer.MAX_VALUE);
        Check.due("time", x.record(0, 0, true), 9999);
        Check.due("value", x.record(0, 0, false), Integer.MIN_VALUE);
        Check.due("time 0", x.record(1, 0, true), 0);
        Check.due("the greatest value", x.record(1, 0, false), Integer.MAX_VALUE);
    }

    private static void noBurstForRecord() {
        for (int burst : NO_BURSTS) {
            Check.refused("burst " + burst, Worked::some, INDEX, x -> x.record(burst, 0, true));
        }
    }

    private static void noSuchRecord() {
        for (int index : new int[] {-1, 2, 100, Integer.MIN_VALUE, Integer.MAX_VALUE}) {
            Check.refused("index " + index, Worked::some, NO_ELEMENT, x -> x.record(3, index, true));
            Check.refused("index " + index, Worked::some, NO_ELEMENT, x -> x.record(0, index, false));
        }
    }

    private static void closesJustThen() {
        for (int lateness : new int[] {0, 100}) {
            for (int gap : new int[] {1, 50}) {
                BurstGrouper x = new BurstGrouper();
                x.setLateness(lateness);
                x.setGap(0, gap);
                x.add(0, 9990, 1);
                x.add(0, 9990 + 1, 1);
                int mark = x.closesAt(0);
                Check.due("the watermark", mark, 9992 + gap + lateness);
                Check.due("one less", x.advance(mark - 1), 0);
                Check.due("the same still", x.closesAt(0), mark);
                Check.due("just then", x.advance(mark), 1);
            }
        }
    }

    private static void noBurstForClosesAt() {
        for (int burst : NO_BURSTS) {
            Check.refused("burst " + burst, Worked::some, INDEX, x -> x.closesAt(burst));
        }
    }

    private static void closedForClosesAt() {
        Check.refused("closed", Worked::some, IllegalStateException.class, x -> x.closesAt(0));
    }

    private static void mergesOfAllKinds() {
        BurstGrouper x = new BurstGrouper();
        Check.due("none", x.mergeCount(), 0);
        x.setGap(0, 1);
        for (int k = 0; k < 99; k++) {
            x.add(0, 2 * k, 1);
        }
        Check.due("none still", x.mergeCount(), 0);
        x.setGap(0, 2);
        Check.due("setGap makes none", x.mergeCount(), 0);
        x.add(0, 9999, 1);
        Check.due("98 at once, though the record joins none", x.mergeCount(), 98);
        x.advance(20000);
        Check.due("they stay counted", x.mergeCount(), 98);
        x.reset();
        Check.due("until reset", x.mergeCount(), 0);
    }
}
