/** The boundary cases of the description's part "More precisely". */
final class PreciseEdges {
    private static final Class<IndexOutOfBoundsException> INDEX = IndexOutOfBoundsException.class;
    private static final Class<IllegalArgumentException> ARGUMENT = IllegalArgumentException.class;

    private PreciseEdges() {
    }

    static void all(Sentences s) {
        s.test("More precisely: Two bursts merge also if the gap is just reached", PreciseEdges::gapJustReached);
        s.test("More precisely: A record that joins a burst", PreciseEdges::joiningUsesANumber);
        s.test("More precisely: A record that joins a burst", PreciseEdges::joiningIsAMerge);
        s.test("More precisely: The burst with the lower number keeps", PreciseEdges::lowerNumberWhereverItLies);
        s.test("More precisely: setGap divides no burst", PreciseEdges::lesserGapDividesNone);
        s.test("More precisely: setGap divides no burst", PreciseEdges::greaterGapMergesNone);
        s.test("More precisely: setGap divides no burst", PreciseEdges::nextRecordMergesThem);
        s.test("More precisely: setGap divides no burst", PreciseEdges::otherKeysAndLateOnesMergeNone);
        s.test("More precisely: A record whose time plus the lateness is equal", PreciseEdges::equalIsNotLate);
        s.test("More precisely: A burst fires early behind all merging", PreciseEdges::earlyBehindMerging);
        s.test("More precisely: When a burst vanishes that has fired", PreciseEdges::stayingOneRetractsLater);
        s.test("More precisely: When a burst vanishes that has fired", PreciseEdges::stayingOneRetractsFinally);
        s.test("More precisely: setFold between two firings", PreciseEdges::foldBetweenFirings);
        s.test("More precisely: standing counts closed bursts", PreciseEdges::closedOnesStand);
        s.test("More precisely: advance to the present watermark", PreciseEdges::presentWatermark);
        s.test("More precisely: closesAt is the last time", PreciseEdges::closesAtBelowTheWatermark);
        s.test("More precisely: closesAt is the last time", PreciseEdges::nextClosingBelowTheWatermark);
        s.test("More precisely: The firings of a burst include", PreciseEdges::finalFiringIsIncluded);
        s.test("More precisely: A late record is an entry", PreciseEdges::lateEntry);
        s.test("More precisely: A late record is an entry", PreciseEdges::lateEntryWhenFull);
        s.test("More precisely: Numbers in a text can have leading zeros", PreciseEdges::leadingZeros);
        s.test("More precisely: Numbers in a text can have leading zeros", PreciseEdges::minusZero);
        s.test("More precisely: Numbers in a text can have leading zeros", PreciseEdges::emptyInput);
        s.test("More precisely: Numbers in a text can have leading zeros", PreciseEdges::errorPositionStays);
        s.test("More precisely: setLateness closes nothing", PreciseEdges::latenessClosesNothing);
        s.test("More precisely: record tells the records", PreciseEdges::equalTimesAsTheyCame);
        s.test("More precisely: record tells the records", PreciseEdges::orderOverMergedBursts);
        s.test("More precisely: record tells the records", PreciseEdges::valuesWithWayThree);
    }

    private static void gapJustReached() {
        for (int gap : new int[] {1, 10, 50}) {
            BurstGrouper x = new BurstGrouper();
            x.setGap(0, gap);
            x.add(0, 200, 1);
            Check.due("above", x.add(0, 200 + gap, 1), 0);
            Check.due("below", x.add(0, 200 - gap, 1), 0);
            Check.due("one beyond, above", x.add(0, 200 + 2 * gap + 1, 1), 3);
            Check.due("one beyond, below", x.add(0, 200 - 2 * gap - 1, 1), 4);
        }
    }

    private static void joiningUsesANumber() {
        BurstGrouper x = new BurstGrouper();
        x.add(0, 10, 1);
        Check.due("joins", x.add(0, 10, 1), 0);
        Check.due("joins again", x.add(0, 12, 1), 0);
        Check.throwing("1 was used up", INDEX, () -> x.burst(1, 0));
        Check.throwing("2 was used up", INDEX, () -> x.burst(2, 0));
        Check.due("the next number", x.add(0, 100, 1), 3);
    }

    private static void joiningIsAMerge() {
        BurstGrouper x = new BurstGrouper();
        x.add(0, 10, 1);
        Check.due("the first one forms", x.mergeCount(), 0);
        x.add(0, 10, 1);
        Check.due("the second one joins", x.mergeCount(), 1);
        x.add(0, 30, 1);
        Check.due("the third one forms", x.mergeCount(), 1);
        x.add(0, 20, 1);
        Check.due("the fourth one joins two", x.mergeCount(), 3);
    }

    private static void lowerNumberWhereverItLies() {
        BurstGrouper above = new BurstGrouper();
        above.add(0, 120, 1);
        above.add(0, 100, 1);
        Check.due("0 lies above", above.add(0, 110, 1), 0);
        BurstGrouper below = new BurstGrouper();
        below.add(0, 100, 1);
        below.add(0, 120, 1);
        Check.due("0 lies below", below.add(0, 110, 1), 0);
        BurstGrouper between = new BurstGrouper();
        between.setGap(0, 1);
        between.add(0, 110, 1);
        between.add(0, 100, 1);
        between.add(0, 120, 1);
        between.setGap(0, 10);
        Check.due("0 lies between", between.add(0, 130, 1), 0);
        Check.due("all are one", between.burst(0, 3), 4);
    }

    private static void lesserGapDividesNone() {
        BurstGrouper x = new BurstGrouper();
        x.add(0, 100, 1);
        x.add(0, 110, 1);
        Check.due("lesser", x.setGap(0, 1), 10);
        Check.due("one burst", x.burstCount(), 1);
        Check.due("between", x.add(0, 105, 1), 0);
        Check.due("two beyond the last time", x.add(0, 112, 1), 3);
        Check.due("one burst and another", x.burstCount(), 2);
        Check.due("one beyond brings both together", x.add(0, 111, 1), 0);
        Check.due("one burst again", x.burstCount(), 1);
    }

    private static void greaterGapMergesNone() {
        BurstGrouper x = new BurstGrouper();
        x.add(0, 100, 1);
        x.add(0, 111, 1);
        x.fire(1);
        x.setGap(0, 50);
        Check.due("two bursts", x.burstCount(), 2);
        Check.due("no merge", x.mergeCount(), 0);
        Check.due("no retraction", x.firingCount(), 1);
        x.advance(120);
        Check.due("nor by advancing", x.burstCount(), 2);
    }

    private static void nextRecordMergesThem() {
        for (int time : new int[] {0, 9999}) {
            BurstGrouper x = new BurstGrouper();
            x.add(0, 1000, 1);
            x.add(0, 1050, 1);
            x.setGap(0, 50);
            Check.due("a record far away", x.add(0, time, 1), 2);
            Check.due("merges them", x.burstCount(), 2);
            Check.due("into the lower one", x.burst(0, 2), 1050);
        }
        BurstGrouper y = new BurstGrouper();
        y.add(0, 1000, 1);
        y.add(0, 1050, 1);
        y.setGap(0, 49);
        y.add(0, 9999, 1);
        Check.due("one less than the distance merges none", y.burstCount(), 3);
    }

    private static void otherKeysAndLateOnesMergeNone() {
        BurstGrouper x = new BurstGrouper();
        x.add(0, 100, 1);
        x.add(0, 120, 1);
        x.setGap(0, 50);
        x.add(1, 110, 1);
        Check.due("a record of another key", x.burstCount(), 3);
        x.advance(110);
        x.add(0, 109, 1);
        Check.due("a late record", x.burstCount(), 3);
        x.add(0, 110, 1);
        Check.due("one that is kept", x.burstCount(), 2);
    }

    private static void equalIsNotLate() {
        for (int lateness : new int[] {0, 1, 100}) {
            BurstGrouper x = new BurstGrouper();
            x.setLateness(lateness);
            x.advance(500);
            Check.due("equal", x.isLate(500 - lateness), false);
            Check.due("equal, added", x.add(0, 500 - lateness, 1), 0);
            Check.due("one less", x.isLate(499 - lateness), true);
            Check.due("one less, added", x.add(0, 499 - lateness, 1), -1);
        }
    }

    private static void earlyBehindMerging() {
        BurstGrouper x = new BurstGrouper();
        x.add(0, 100, 1);
        x.add(0, 120, 2);
        x.fire(1);
        x.setTrigger(1);
        Check.due("brings both together", x.add(0, 110, 4), 0);
        Check.due("a retraction and one early firing", x.firingCount(), 3);
        Check.due("the retraction first", x.firing(1, 0), 2);
        Check.due("then the early one", x.firing(2, 0), 0);
        Check.due("of all records", x.firing(2, 2), 7);
        Check.due("from the first", x.firing(2, 3), 100);
        Check.due("to the last", x.firing(2, 4), 120);
    }

    private static BurstGrouper mergedAfterFiring() {
        BurstGrouper x = new BurstGrouper();
        x.add(0, 100, 1);
        x.add(0, 120, 2);
        x.fire(0);
        x.fire(1);
        x.add(0, 110, 4);
        Check.due("the retraction of the one that vanished alone", x.firingCount(), 3);
        Check.due("of that one", x.firing(2, 1), 1);
        Check.due("the other one stands", x.standing(), 1);
        Check.due("its firings", x.burst(0, 5), 1);
        return x;
    }

    private static void stayingOneRetractsLater() {
        BurstGrouper x = mergedAfterFiring();
        Check.due("when it fires again", x.fire(0), 2);
        Check.due("a retraction", x.firing(3, 0), 2);
        Check.due("of its own", x.firing(3, 1), 0);
        Check.due("result", x.firing(3, 2), 1);
        Check.due("last time", x.firing(3, 4), 100);
        Check.due("and the new one", x.firing(4, 2), 7);
    }

    private static void stayingOneRetractsFinally() {
        BurstGrouper x = mergedAfterFiring();
        Check.due("closes", x.advance(131), 1);
        Check.due("two more", x.firingCount(), 5);
        Check.due("a retraction", x.firing(3, 0), 2);
        Check.due("then the final one", x.firing(4, 0), 1);
    }

    private static void foldBetweenFirings() {
        BurstGrouper x = new BurstGrouper();
        x.add(0, 10, 5);
        x.add(0, 10, 3);
        x.fire(0);
        x.setFold(0, 1);
        Check.due("dirty by that", x.isDirty(0), true);
        Check.due("a correction", x.fire(0), 2);
        Check.due("of the sum", x.firing(1, 2), 8);
        Check.due("to the greatest", x.firing(2, 2), 5);
        x.setFold(0, 2);
        x.setFold(0, 1);
        Check.due("there and back is no difference", x.fire(0), 0);
        x.setFold(0, 3);
        x.advance(100);
        Check.due("to the number, finally", x.firing(4, 2), 2);
        BurstGrouper y = new BurstGrouper();
        y.add(0, 10, 1);
        y.fire(0);
        y.setFold(0, 3);
        Check.due("another way with the same result", y.fire(0), 0);
    }

    private static void closedOnesStand() {
        BurstGrouper x = new BurstGrouper();
        x.add(0, 10, 5);
        Check.due("before", x.standing(), 0);
        x.advance(21);
        Check.due("closed", x.standing(), 5);
        x.setFold(0, 3);
        Check.due("with what was fired", x.standing(), 5);
        x.advance(20000);
        Check.due("for ever", x.standing(), 5);
    }

    private static void presentWatermark() {
        BurstGrouper x = new BurstGrouper();
        Check.due("at first", x.advance(0), 0);
        x.setLateness(10);
        x.add(0, 100, 1);
        x.add(1, 100, 1);
        Check.due("nothing closes", x.advance(120), 0);
        Check.due("nothing closes the second time", x.advance(120), 0);
        x.setGap(0, 9);
        Check.due("what a lesser gap lets close", x.advance(120), 1);
        x.setLateness(9);
        Check.due("what a lesser lateness lets close", x.advance(120), 1);
        Check.due("the watermark", x.watermark(), 120);
        x.advance(20000);
        Check.due("the greatest", x.advance(20000), 0);
    }

    /** Closes at 121 and at 111, but the watermark is 200 already. */
    private static BurstGrouper belowTheWatermark() {
        BurstGrouper x = new BurstGrouper();
        x.setLateness(100);
        x.setGap(1, 30);
        x.add(1, 90, 1);
        x.add(0, 100, 1);
        Check.due("nothing closes yet", x.advance(200), 0);
        x.setLateness(0);
        return x;
    }

    private static void closesAtBelowTheWatermark() {
        BurstGrouper x = belowTheWatermark();
        Check.due("below the watermark", x.closesAt(0), 121);
        Check.due("also", x.closesAt(1), 111);
        x.setLateness(100);
        Check.due("above it", x.closesAt(0), 221);
        BurstGrouper y = new BurstGrouper();
        y.setGap(0, 1);
        y.add(0, 0, 1);
        Check.due("the least", y.closesAt(0), 2);
        y.setGap(0, 50);
        y.setLateness(100);
        y.add(0, 9999, 1);
        Check.due("the greatest", y.closesAt(1), 10150);
    }

    private static void nextClosingBelowTheWatermark() {
        BurstGrouper x = belowTheWatermark();
        Check.due("the least closesAt, not the least last time", x.nextClosing(), 1);
        Check.due("though both close at once", x.advance(200), 2);
        Check.due("the lesser last time first", x.firing(0, 1), 0);
    }

    private static void finalFiringIsIncluded() {
        BurstGrouper x = new BurstGrouper();
        x.add(0, 10, 1);
        Check.due("none", x.burst(0, 5), 0);
        x.advance(21);
        Check.due("the final one alone", x.burst(0, 5), 1);
        x.add(1, 30, 1);
        x.fire(1);
        x.add(1, 31, 1);
        x.advance(100);
        Check.due("early and final, without the retraction", x.burst(1, 5), 2);
    }

    private static void lateEntry() {
        BurstGrouper x = new BurstGrouper();
        Worked.write(x, "w50;r0:49=1;r0:50=2;");
        Check.due("three entries", x.read(), 3);
        Check.due("one late", x.lateCount(), 1);
        Check.due("one kept", x.recordCount(), 1);
        Worked.write(x, "r0:0=1;");
        Check.due("a late one alone", x.read(), 1);
        Check.due("two late", x.lateCount(), 2);
    }

    private static void lateEntryWhenFull() {
        BurstGrouper x = Worked.fullOfRecords();
        Worked.write(x, ";w70;r0:65=1;");
        Check.throwing("r3:77 has no room", IllegalStateException.class, x::read);
        Check.due("so that nothing is late", x.lateCount(), 1);
        Worked.write(x, "w70;r0:65=1;r0:0=1;");
        Check.due("late ones need none", x.read(), 3);
        Check.due("late", x.lateCount(), 3);
    }

    private static void leadingZeros() {
        BurstGrouper x = new BurstGrouper();
        Worked.write(x, "r0:0010=007;r1:09=-08;w0010;");
        Check.due("three entries", x.read(), 3);
        Check.due("time 10", x.burst(0, 1), 10);
        Check.due("value 7", x.burst(0, 4), 7);
        Check.due("time 9", x.burst(1, 1), 9);
        Check.due("value -8", x.burst(1, 4), -8);
        Check.due("watermark 10", x.watermark(), 10);
        Worked.write(x, "r2:0000=000;");
        Check.due("zeros alone, late", x.read(), 1);
        Check.due("late", x.lateCount(), 1);
    }

    private static void minusZero() {
        BurstGrouper x = new BurstGrouper();
        Worked.write(x, "r0:5=-0;r1:5=-00;r2:5=-000;");
        Check.due("three entries", x.read(), 3);
        for (int burst = 0; burst < 3; burst++) {
            Check.due("0", x.burst(burst, 4), 0);
        }
    }

    private static void emptyInput() {
        BurstGrouper x = new BurstGrouper();
        Check.throwing("never written", ARGUMENT, x::read);
        Check.due("its error position", x.errorPosition(), 0);
        Worked.write(x, "w1;");
        x.read();
        Check.throwing("read a second time", ARGUMENT, x::read);
        Check.due("the watermark stays", x.watermark(), 1);
    }

    private static void errorPositionStays() {
        BurstGrouper x = new BurstGrouper();
        Worked.write(x, "w5;x");
        Check.throwing("wrong", ARGUMENT, x::read);
        Worked.write(x, "w5;");
        Check.due("right", x.read(), 1);
        Check.due("stays", x.errorPosition(), 3);
        Worked.write(x, "w4;");
        Check.throwing("right, but throws", IllegalStateException.class, x::read);
        Check.due("stays still", x.errorPosition(), 3);
    }

    private static void latenessClosesNothing() {
        BurstGrouper x = new BurstGrouper();
        x.setLateness(100);
        x.add(0, 100, 1);
        x.advance(200);
        x.setLateness(0);
        Check.due("open", x.openCount(), 1);
        Check.due("no firing", x.firingCount(), 0);
        x.add(1, 300, 1);
        Check.due("nor by a record", x.openCount(), 2);
        Check.due("the next advance", x.advance(200), 1);
        Check.due("closed", x.isClosed(0), true);
    }

    private static void equalTimesAsTheyCame() {
        BurstGrouper x = new BurstGrouper();
        for (int k = 0; k < 100; k++) {
            x.add(0, 10 - k % 3, k);
        }
        int[] sizes = {33, 33, 34};
        int index = 0;
        for (int part = 0; part < 3; part++) {
            for (int k = 0; k < sizes[part]; k++) {
                Check.due("value " + index, x.record(0, index, false), 2 - part + 3 * k);
                index++;
            }
        }
    }

    private static void orderOverMergedBursts() {
        BurstGrouper x = new BurstGrouper();
        int[][] came = {{120, 1}, {100, 2}, {120, 3}, {100, 4}, {125, 5}, {95, 6}, {110, 7}};
        for (int[] record : came) {
            x.add(0, record[0], record[1]);
        }
        int[] times = {95, 100, 100, 110, 120, 120, 125};
        int[] values = {6, 2, 4, 7, 1, 3, 5};
        Check.due("all are one", x.burst(0, 3), 7);
        for (int k = 0; k < 7; k++) {
            Check.due("time " + k, x.record(0, k, true), times[k]);
            Check.due("value " + k, x.record(0, k, false), values[k]);
        }
    }

    private static void valuesWithWayThree() {
        BurstGrouper x = new BurstGrouper();
        x.setFold(0, 3);
        x.add(0, 10, 77);
        x.add(0, 10, -78);
        Check.due("their number", x.burst(0, 4), 2);
        Check.due("the first value", x.record(0, 0, false), 77);
        Check.due("the other one", x.record(0, 1, false), -78);
        x.setFold(0, 0);
        Check.due("the sum", x.burst(0, 4), -1);
    }
}
