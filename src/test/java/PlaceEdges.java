import java.util.NoSuchElementException;

/** The boundary cases of promises 18, 19, 22, 23 and 25: burstAt, joined, nextClosing, averageLength, regrouped. */
final class PlaceEdges {
    private static final Class<IndexOutOfBoundsException> INDEX = IndexOutOfBoundsException.class;
    private static final Class<IllegalArgumentException> ARGUMENT = IllegalArgumentException.class;
    private static final Class<NoSuchElementException> NO_ELEMENT = NoSuchElementException.class;
    private static final Class<ArithmeticException> ARITHMETIC = ArithmeticException.class;
    private static final int[] NO_KEYS = {-1, 8, Integer.MIN_VALUE, Integer.MAX_VALUE};

    private PlaceEdges() {
    }

    static void all(Sentences s) {
        s.test("18: Returns a burst of a key by its place", PlaceEdges::placesOfAllKinds);
        s.test("18: `key`", PlaceEdges::placesOfTheOutermostKeys);
        s.test("18: `index`", PlaceEdges::firstTimesThenNumbers);
        s.test("18: `index`", PlaceEdges::firstAndLastOfHundred);
        s.test("18: Throws `IndexOutOfBoundsException`", PlaceEdges::noKeyForBurstAt);
        s.test("18: Throws `NoSuchElementException`", PlaceEdges::noSuchPlace);
        s.test("19: Returns the burst of a key that a record", PlaceEdges::justInReach);
        s.test("19: Returns the burst of a key that a record", PlaceEdges::lowestNumberInReach);
        s.test("19: Returns the burst of a key that a record", PlaceEdges::openOnesAlone);
        s.test("19: Returns the burst of a key that a record", PlaceEdges::lateTimesAndFullObjects);
        s.test("19: `key`", PlaceEdges::joinedOfTheOutermostKeys);
        s.test("19: `time`", PlaceEdges::joinedAtTheOutermostTimes);
        s.test("19: Throws `IndexOutOfBoundsException`", PlaceEdges::noKeyForJoined);
        s.test("19: Throws `IllegalArgumentException`", PlaceEdges::noTimeForJoined);
        s.test("19: Throws `NoSuchElementException`", PlaceEdges::nothingInReach);
        s.test("22: Returns the burst that would close first", PlaceEdges::leastWatermarkFirst);
        s.test("22: Returns the burst that would close first", PlaceEdges::sameWatermark);
        s.test("22: Returns the burst that would close first", PlaceEdges::oneAfterTheOther);
        s.test("22: Throws `NoSuchElementException`", PlaceEdges::nothingToClose);
        s.test("23: Returns the average length", PlaceEdges::lengthsOfAllKinds);
        s.test("23: Returns the average length", PlaceEdges::leastAndGreatestLength);
        s.test("23: `key`", PlaceEdges::averagesOfTheOutermostKeys);
        s.test("23: Throws `IndexOutOfBoundsException`", PlaceEdges::noKeyForAverage);
        s.test("23: Throws `ArithmeticException`", PlaceEdges::noBurstForAverage);
        s.test("25: Returns the number of bursts that a key would have", PlaceEdges::regroupedAtTheGap);
        s.test("25: Returns the number of bursts that a key would have", PlaceEdges::regroupedOverClosedOnes);
        s.test("25: Returns the number of bursts that a key would have", PlaceEdges::regroupedNoneAndHundred);
        s.test("25: `key`", PlaceEdges::regroupedOfTheOutermostKeys);
        s.test("25: Throws `IndexOutOfBoundsException`", PlaceEdges::noKeyForRegrouped);
    }

    private static void placesOfAllKinds() {
        BurstGrouper x = new BurstGrouper();
        x.add(0, 50, 1);
        x.add(0, 100, 1);
        x.add(0, 120, 1);
        x.add(0, 110, 1);
        x.advance(61);
        Check.due("a closed one", x.burstAt(0, 0), 0);
        Check.due("an open one", x.burstAt(0, 1), 1);
        Check.throwing("no vanished one", NO_ELEMENT, () -> x.burstAt(0, 2));
    }

    private static void placesOfTheOutermostKeys() {
        BurstGrouper x = new BurstGrouper();
        x.add(7, 10, 1);
        x.add(0, 20, 1);
        Check.due("0", x.burstAt(0, 0), 1);
        Check.due("7", x.burstAt(7, 0), 0);
    }

    private static void firstTimesThenNumbers() {
        BurstGrouper x = new BurstGrouper();
        x.add(0, 200, 1);
        x.add(0, 100, 1);
        x.advance(111);
        x.setLateness(100);
        Check.due("beside a closed one", x.add(0, 100, 1), 2);
        Check.due("the closed one, for its number is lower", x.burstAt(0, 0), 1);
        Check.due("the open one with the same first time", x.burstAt(0, 1), 2);
        Check.due("the greatest first time, the lowest number", x.burstAt(0, 2), 0);
        x.add(0, 90, 1);
        Check.due("a lesser first time now", x.burstAt(0, 0), 2);
        Check.due("the closed one then", x.burstAt(0, 1), 1);
    }

    private static void firstAndLastOfHundred() {
        BurstGrouper x = new BurstGrouper();
        x.setGap(0, 1);
        for (int k = 0; k < 100; k++) {
            x.add(0, 9900 - 99 * k, 1);
        }
        for (int index = 0; index < 100; index++) {
            Check.due("place " + index, x.burstAt(0, index), 99 - index);
        }
        Check.throwing("one beyond", NO_ELEMENT, () -> x.burstAt(0, 100));
    }

    private static void noKeyForBurstAt() {
        for (int key : NO_KEYS) {
            Check.refused("key " + key, Worked::some, INDEX, x -> x.burstAt(key, 0));
        }
    }

    private static void noSuchPlace() {
        for (int index : new int[] {-1, 2, 100, Integer.MIN_VALUE, Integer.MAX_VALUE}) {
            Check.refused("index " + index, Worked::some, NO_ELEMENT, x -> x.burstAt(2, index));
        }
        Check.refused("a key without bursts", Worked::some, NO_ELEMENT, x -> x.burstAt(7, 0));
        Check.refused("at first", BurstGrouper::new, NO_ELEMENT, x -> x.burstAt(0, 0));
    }

    private static void justInReach() {
        for (int gap : new int[] {1, 10, 50}) {
            BurstGrouper x = new BurstGrouper();
            x.setGap(0, gap);
            x.add(0, 500, 1);
            x.add(0, 501, 1);
            Check.due("below", x.joined(0, 500 - gap), 0);
            Check.due("above", x.joined(0, 501 + gap), 0);
            Check.due("the first time", x.joined(0, 500), 0);
            Check.due("the last time", x.joined(0, 501), 0);
            Check.throwing("one below", NO_ELEMENT, () -> x.joined(0, 499 - gap));
            Check.throwing("one above", NO_ELEMENT, () -> x.joined(0, 502 + gap));
        }
    }

    private static void lowestNumberInReach() {
        BurstGrouper x = new BurstGrouper();
        x.setGap(0, 1);
        x.add(0, 140, 1);
        x.add(0, 120, 1);
        x.add(0, 100, 1);
        x.setGap(0, 20);
        Check.due("1 and 2, not 0", x.joined(0, 110), 1);
        Check.due("all three", x.joined(0, 120), 0);
        Check.due("2 alone", x.joined(0, 99), 2);
        Check.due("it is what add answers", x.add(0, 120, 1), 0);
    }

    private static void openOnesAlone() {
        BurstGrouper x = new BurstGrouper();
        x.add(0, 100, 1);
        x.add(0, 115, 1);
        x.advance(111);
        Check.due("the open one", x.joined(0, 107), 1);
        Check.throwing("not the closed one", NO_ELEMENT, () -> x.joined(0, 100));
        x.advance(126);
        Check.throwing("nor the other one when it is closed", NO_ELEMENT, () -> x.joined(0, 115));
    }

    private static void lateTimesAndFullObjects() {
        BurstGrouper x = new BurstGrouper();
        x.add(0, 100, 1);
        x.advance(110);
        Check.due("would be late", x.isLate(90), true);
        Check.due("asked as if it were not", x.joined(0, 90), 0);
        Check.due("with 100 records", Worked.fullOfRecords().joined(2, 70), 2);
    }

    private static void joinedOfTheOutermostKeys() {
        BurstGrouper x = new BurstGrouper();
        x.add(7, 10, 1);
        x.add(0, 10, 1);
        Check.due("0", x.joined(0, 10), 1);
        Check.due("7", x.joined(7, 10), 0);
    }

    private static void joinedAtTheOutermostTimes() {
        BurstGrouper x = new BurstGrouper();
        x.add(0, 10, 1);
        x.add(0, 9989, 1);
        Check.due("0", x.joined(0, 0), 0);
        Check.due("9999", x.joined(0, 9999), 1);
    }

    private static void noKeyForJoined() {
        for (int key : NO_KEYS) {
            Check.refused("key " + key, Worked::some, INDEX, x -> x.joined(key, 90));
        }
    }

    private static void noTimeForJoined() {
        for (int time : new int[] {-1, 10000, Integer.MIN_VALUE, Integer.MAX_VALUE}) {
            Check.refused("time " + time, Worked::some, ARGUMENT, x -> x.joined(2, time));
        }
        BurstGrouper x = new BurstGrouper();
        x.add(0, 0, 1);
        x.add(0, 9999, 1);
        Check.throwing("-1, though a burst is near", ARGUMENT, () -> x.joined(0, -1));
        Check.throwing("10000, though a burst is near", ARGUMENT, () -> x.joined(0, 10000));
    }

    private static void nothingInReach() {
        Check.refused("no burst near", Worked::some, NO_ELEMENT, x -> x.joined(2, 69));
        Check.refused("no burst of the key", Worked::some, NO_ELEMENT, x -> x.joined(7, 90));
        Check.refused("no burst at first", BurstGrouper::new, NO_ELEMENT, x -> x.joined(0, 0));
    }

    private static void leastWatermarkFirst() {
        BurstGrouper x = new BurstGrouper();
        x.setGap(0, 50);
        x.setGap(1, 1);
        x.add(0, 100, 1);
        x.add(1, 148, 1);
        Check.due("150 before 151", x.nextClosing(), 1);
        x.add(1, 149, 1);
        Check.due("both at 151, the lesser last time", x.nextClosing(), 0);
        x.add(1, 150, 1);
        Check.due("151 before 152", x.nextClosing(), 0);
        BurstGrouper y = new BurstGrouper();
        y.setGap(0, 50);
        y.setGap(1, 1);
        y.add(1, 148, 1);
        y.add(0, 100, 1);
        Check.due("150 before 151, formed the other way round", y.nextClosing(), 0);
        y.add(2, 90, 1);
        Check.due("101 before both", y.nextClosing(), 2);
    }

    private static void sameWatermark() {
        BurstGrouper x = new BurstGrouper();
        x.add(3, 100, 1);
        x.add(2, 100, 1);
        x.add(1, 99, 1);
        x.setGap(1, 11);
        Check.due("the lesser last time", x.nextClosing(), 2);
        x.setGap(1, 12);
        Check.due("the same last time, the lower number", x.nextClosing(), 0);
    }

    private static void oneAfterTheOther() {
        BurstGrouper x = new BurstGrouper();
        for (int k = 0; k < 100; k++) {
            x.add(k % 8, 9000 - 90 * k, 1);
        }
        for (int k = 99; k >= 0; k--) {
            Check.due("the next", x.nextClosing(), k);
            Check.due("closes alone", x.advance(x.closesAt(k)), 1);
        }
        Check.throwing("none is left", NO_ELEMENT, x::nextClosing);
    }

    private static void nothingToClose() {
        Check.refused("at first", BurstGrouper::new, NO_ELEMENT, x -> x.nextClosing());
        BurstGrouper x = new BurstGrouper();
        x.add(0, 100, 1);
        x.advance(111);
        Check.throwing("all are closed", NO_ELEMENT, x::nextClosing);
        Check.due("a new one", x.add(0, 111, 1), 1);
        Check.due("is next", x.nextClosing(), 1);
        x.reset();
        Check.throwing("after reset", NO_ELEMENT, x::nextClosing);
    }

    private static void lengthsOfAllKinds() {
        BurstGrouper x = new BurstGrouper();
        x.add(0, 10, 1);
        x.add(0, 17, 1);
        x.advance(28);
        Check.due("a closed one", x.averageLength(0), 7.0);
        x.add(0, 100, 1);
        x.add(0, 120, 1);
        Check.due("two more of length 0", x.averageLength(0), 7.0 / 3.0);
        x.add(0, 110, 1);
        Check.due("which become one", x.averageLength(0), 27.0 / 2.0);
        x.add(1, 110, 1);
        Check.due("another key", x.averageLength(1), 0.0);
    }

    private static void leastAndGreatestLength() {
        BurstGrouper x = new BurstGrouper();
        x.add(0, 9999, 1);
        Check.due("0", x.averageLength(0), 0.0);
        x.setGap(1, 50);
        for (int k = 0; k < 99; k++) {
            x.add(1, 50 * k, 1);
        }
        Check.due("98 times the greatest gap", x.averageLength(1), 4900.0);
    }

    private static void averagesOfTheOutermostKeys() {
        BurstGrouper x = new BurstGrouper();
        x.add(7, 10, 1);
        x.add(7, 13, 1);
        x.add(0, 10, 1);
        x.add(0, 15, 1);
        Check.due("0", x.averageLength(0), 5.0);
        Check.due("7", x.averageLength(7), 3.0);
    }

    private static void noKeyForAverage() {
        for (int key : NO_KEYS) {
            Check.refused("key " + key, Worked::some, INDEX, x -> x.averageLength(key));
        }
    }

    private static void noBurstForAverage() {
        Check.refused("a key without bursts", Worked::some, ARITHMETIC, x -> x.averageLength(7));
        Check.refused("at first", BurstGrouper::new, ARITHMETIC, x -> x.averageLength(0));
        BurstGrouper x = new BurstGrouper();
        x.advance(10);
        x.add(0, 9, 1);
        Check.throwing("a late record alone", ARITHMETIC, () -> x.averageLength(0));
    }

    private static void regroupedAtTheGap() {
        BurstGrouper x = new BurstGrouper();
        x.setGap(0, 1);
        x.add(0, 100, 1);
        x.add(0, 110, 1);
        x.add(0, 121, 1);
        int[][] due = {{1, 3}, {9, 3}, {10, 2}, {11, 1}, {50, 1}};
        for (int[] row : due) {
            x.setGap(0, row[0]);
            Check.due("gap " + row[0], x.regrouped(0), row[1]);
        }
        Check.due("the bursts stay", x.burstCount(), 3);
        BurstGrouper y = new BurstGrouper();
        y.add(0, 100, 1);
        y.add(0, 110, 1);
        y.setGap(0, 9);
        Check.due("a lesser gap divides", y.regrouped(0), 2);
        Check.due("but not the burst", y.burstCount(), 1);
    }

    private static void regroupedOverClosedOnes() {
        BurstGrouper x = new BurstGrouper();
        x.add(0, 100, 1);
        x.advance(111);
        x.setLateness(100);
        x.add(0, 100, 1);
        x.add(0, 120, 1);
        Check.due("three bursts", x.burstCount(), 3);
        Check.due("the closed one and the one at the same time are one", x.regrouped(0), 2);
        x.setGap(0, 20);
        Check.due("all are one", x.regrouped(0), 1);
        x.setLateness(0);
        x.advance(20000);
        Check.due("all closed, and still one", x.regrouped(0), 1);
    }

    private static void regroupedNoneAndHundred() {
        BurstGrouper x = new BurstGrouper();
        Check.due("none", x.regrouped(0), 0);
        x.setGap(0, 49);
        for (int k = 0; k < 100; k++) {
            x.add(0, 50 * (99 - k), 1);
        }
        Check.due("a hundred", x.regrouped(0), 100);
        x.setGap(0, 50);
        Check.due("one", x.regrouped(0), 1);
        Check.due("another key", x.regrouped(1), 0);
    }

    private static void regroupedOfTheOutermostKeys() {
        BurstGrouper x = new BurstGrouper();
        x.add(7, 10, 1);
        x.add(7, 100, 1);
        x.add(0, 10, 1);
        Check.due("0", x.regrouped(0), 1);
        Check.due("7", x.regrouped(7), 2);
    }

    private static void noKeyForRegrouped() {
        for (int key : NO_KEYS) {
            Check.refused("key " + key, Worked::some, INDEX, x -> x.regrouped(key));
        }
    }
}
