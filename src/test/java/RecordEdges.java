/** The boundary cases of the description's parts "Records", "Bursts" and "Watermark". */
final class RecordEdges {
    private static final Class<IndexOutOfBoundsException> INDEX = IndexOutOfBoundsException.class;
    private static final Class<IllegalArgumentException> ARGUMENT = IllegalArgumentException.class;
    private static final Class<IllegalStateException> STATE = IllegalStateException.class;

    private RecordEdges() {
    }

    static void all(Sentences s) {
        s.test("Records: A record has a key from 0 to 7", RecordEdges::leastAndGreatestRecords);
        s.test("Records: A record has a key from 0 to 7", RecordEdges::recordsBesideTheRange);
        s.test("Records: At most 100 records are kept", RecordEdges::hundredRecords);
        s.test("Records: At most 100 records are kept", RecordEdges::mergedAndClosedRecordsAreKept);
        s.test("Records: Each key has a gap from 1 to 50", RecordEdges::gapAtFirst);
        s.test("Records: Each key has a gap from 1 to 50", RecordEdges::leastAndGreatestGap);
        s.test("Records: Each key has a gap from 1 to 50", RecordEdges::ways);
        s.test("Bursts: Records of a key belong to bursts", RecordEdges::keysApart);
        s.test("Bursts: When a record comes, it forms a burst by itself", RecordEdges::burstOfOneRecord);
        s.test("Bursts: As long as there are two bursts", RecordEdges::reachUpwards);
        s.test("Bursts: As long as there are two bursts", RecordEdges::reachDownwards);
        s.test("Bursts: As long as there are two bursts", RecordEdges::sameFirstTime);
        s.test("Bursts: As long as there are two bursts", RecordEdges::reachOnBothSides);
        s.test("Bursts: As long as there are two bursts", RecordEdges::reachOnOneSide);
        s.test("Bursts: As long as there are two bursts", RecordEdges::leastLowerNumberFirst);
        s.test("Bursts: As long as there are two bursts", RecordEdges::leastHigherNumberThen);
        s.test("Bursts: As long as there are two bursts", RecordEdges::untilNoPairIsLeft);
        s.test("Bursts: The burst with the lower number gets all records", RecordEdges::lowerNumberLiesLater);
        s.test("Bursts: The burst with the lower number gets all records", RecordEdges::oneInsideTheOther);
        s.test("Bursts: Bursts are numbered from 0", RecordEdges::numbersFromZero);
        s.test("Bursts: Bursts are numbered from 0", RecordEdges::numbersUpToTheLast);
        s.test("Bursts: A burst closes when its final firing happens", RecordEdges::closedNeverMerge);
        s.test("Bursts: A burst closes when its final firing happens", RecordEdges::closedOneOfAHigherNumber);
        s.test("Bursts: The result of a burst", RecordEdges::sumsThatWrap);
        s.test("Bursts: The result of a burst", RecordEdges::greatestAndLeastOfTheOutermost);
        s.test("Bursts: The result of a burst", RecordEdges::wayWhenTheResultIsAskedFor);
        s.test("Watermark: The watermark is a time", RecordEdges::watermarkNeverDecreases);
        s.test("Watermark: The lateness is from 0 to 100", RecordEdges::latenessRange);
        s.test("Watermark: A record is late if", RecordEdges::justLate);
        s.test("Watermark: A record is late if", RecordEdges::justLateWithTheGreatestLateness);
        s.test("Watermark: A record is late if", RecordEdges::lateRecordLeavesNoTrace);
    }

    /** Records of key 0, each with its place in the row as its value, under a gap that lets none of them merge. */
    private static BurstGrouper apart(int... times) {
        BurstGrouper x = new BurstGrouper();
        x.setGap(0, 1);
        for (int k = 0; k < times.length; k++) {
            Check.due("the burst of " + times[k], x.add(0, times[k], k), k);
        }
        return x;
    }

    private static void leastAndGreatestRecords() {
        BurstGrouper x = new BurstGrouper();
        int[][] rows = {{0, 0, Integer.MIN_VALUE}, {7, 9999, Integer.MAX_VALUE}, {0, 9999, -1}, {7, 0, 0}};
        for (int k = 0; k < rows.length; k++) {
            Check.due("burst", x.add(rows[k][0], rows[k][1], rows[k][2]), k);
            Check.due("key", x.burst(k, 0), rows[k][0]);
            Check.due("time", x.record(k, 0, true), rows[k][1]);
            Check.due("value", x.record(k, 0, false), rows[k][2]);
        }
    }

    private static void recordsBesideTheRange() {
        Check.refused("key -1", Worked::some, INDEX, x -> x.add(-1, 5000, 1));
        Check.refused("key 8", Worked::some, INDEX, x -> x.add(8, 5000, 1));
        Check.refused("time -1", Worked::some, ARGUMENT, x -> x.add(0, -1, 1));
        Check.refused("time 10000", Worked::some, ARGUMENT, x -> x.add(0, 10000, 1));
    }

    private static void hundredRecords() {
        BurstGrouper x = new BurstGrouper();
        for (int k = 0; k < 100; k++) {
            Check.due("record " + k, x.add(k % 8, 90 * k, k), k);
        }
        Check.due("the hundredth is kept", x.record(99, 0, false), 99);
        Check.throwing("one more", STATE, () -> x.add(0, 9999, 1));
        Check.throwing("one more that would join", STATE, () -> x.add(0, 0, 1));
        Check.due("records", x.recordCount(), 100);
        Check.refused("one more", Worked::fullOfRecords, STATE, full -> full.add(6, 9000, 1));
    }

    private static void mergedAndClosedRecordsAreKept() {
        BurstGrouper x = new BurstGrouper();
        for (int k = 0; k < 100; k++) {
            Check.due("all in one", x.add(3, 10, k), 0);
        }
        Check.due("closed", x.advance(21), 1);
        Check.throwing("99 vanished and one closed burst leave no room", STATE, () -> x.add(3, 9000, 1));
        Check.due("records", x.recordCount(), 100);
    }

    private static void gapAtFirst() {
        for (int key = 0; key < 8; key++) {
            BurstGrouper x = new BurstGrouper();
            x.add(key, 100, 1);
            Check.due("11 is too far", x.add(key, 111, 1), 1);
            Check.due("10 is not", x.add(key, 90, 1), 0);
            Check.due("it is 10", x.setGap(key, 10), 10);
            Check.due("and the way is 0", x.setFold(key, 0), 0);
        }
    }

    private static void leastAndGreatestGap() {
        BurstGrouper x = new BurstGrouper();
        x.setGap(0, 1);
        x.setGap(7, 50);
        x.add(0, 100, 1);
        x.add(7, 100, 1);
        Check.due("gap 1 does not reach 2", x.add(0, 102, 1), 2);
        Check.due("gap 1 reaches 1", x.add(0, 99, 1), 0);
        Check.due("gap 50 does not reach 51", x.add(7, 151, 1), 4);
        Check.due("gap 50 reaches 50", x.add(7, 50, 1), 1);
        Check.refused("gap 0", Worked::some, ARGUMENT, y -> y.setGap(2, 0));
        Check.refused("gap 51", Worked::some, ARGUMENT, y -> y.setGap(2, 51));
    }

    private static void ways() {
        BurstGrouper x = new BurstGrouper();
        x.add(5, 10, 7);
        x.add(5, 11, -9);
        x.add(5, 12, 4);
        int[] due = {2, 7, -9, 3};
        Check.due("at first the sum", x.burst(0, 4), 2);
        for (int way = 0; way < 4; way++) {
            x.setFold(5, way);
            Check.due("way " + way, x.burst(0, 4), due[way]);
        }
        Check.refused("way -1", Worked::some, ARGUMENT, y -> y.setFold(2, -1));
        Check.refused("way 4", Worked::some, ARGUMENT, y -> y.setFold(2, 4));
    }

    private static void keysApart() {
        BurstGrouper x = new BurstGrouper();
        for (int key = 0; key < 8; key++) {
            Check.due("the same time, another key", x.add(key, 10, key), key);
        }
        Check.due("bursts", x.burstCount(), 8);
        Check.due("no merge", x.mergeCount(), 0);
        for (int key = 0; key < 8; key++) {
            Check.due("joins its own key", x.add(key, 11, key), key);
        }
    }

    private static void burstOfOneRecord() {
        for (int time : new int[] {0, 9999}) {
            BurstGrouper x = new BurstGrouper();
            x.add(0, time, 6);
            Check.due("first time", x.burst(0, 1), time);
            Check.due("last time", x.burst(0, 2), time);
            Check.due("one record", x.burst(0, 3), 1);
        }
    }

    private static void reachUpwards() {
        BurstGrouper x = new BurstGrouper();
        x.add(0, 100, 1);
        x.add(0, 110, 1);
        Check.due("one beyond the last time and the gap", x.add(0, 121, 1), 2);
        Check.due("at the last time and the gap", x.add(0, 120, 1), 0);
        Check.due("which brings both together", x.burstCount(), 1);
    }

    private static void reachDownwards() {
        BurstGrouper x = new BurstGrouper();
        x.add(0, 110, 1);
        x.add(0, 100, 1);
        Check.due("one below the first time less the gap", x.add(0, 89, 1), 2);
        Check.due("at the first time less the gap", x.add(0, 90, 1), 0);
        Check.due("which brings both together", x.burstCount(), 1);
    }

    private static void sameFirstTime() {
        BurstGrouper x = new BurstGrouper();
        x.setGap(0, 1);
        x.add(0, 0, 1);
        Check.due("the first time itself", x.add(0, 0, 2), 0);
        x.add(0, 1, 4);
        Check.due("the first time of a longer one", x.add(0, 0, 8), 0);
        Check.due("one burst", x.burstCount(), 1);
        Check.due("merges", x.mergeCount(), 3);
    }

    private static void reachOnBothSides() {
        BurstGrouper x = apart(100, 120);
        x.setGap(0, 10);
        Check.due("just reaches both", x.add(0, 110, 9), 0);
        Check.due("one burst", x.burstCount(), 1);
        Check.due("two merges", x.mergeCount(), 2);
    }

    private static void reachOnOneSide() {
        BurstGrouper x = apart(100, 121);
        x.setGap(0, 10);
        Check.due("reaches the one below alone", x.add(0, 110, 9), 0);
        Check.due("two bursts", x.burstCount(), 2);
        BurstGrouper y = apart(99, 120);
        y.setGap(0, 10);
        Check.due("reaches the one above alone", y.add(0, 110, 9), 1);
        Check.due("still two bursts", y.burstCount(), 2);
    }

    private static void retractedInOrder(BurstGrouper x, int bursts, int... due) {
        for (int burst = 0; burst < bursts; burst++) {
            x.fire(burst);
        }
        x.setGap(0, 10);
        x.add(0, 9999, 0);
        Check.due("merges", x.mergeCount(), due.length);
        for (int k = 0; k < due.length; k++) {
            Check.due("a retraction", x.firing(bursts + k, 0), 2);
            Check.due("retraction " + k, x.firing(bursts + k, 1), due[k]);
        }
    }

    private static void leastLowerNumberFirst() {
        // 1 and 2 could merge, and so could 0 and 3.
        retractedInOrder(apart(500, 100, 110, 510), 4, 3, 2);
        // 2 and 3 could merge, and 1 and 4, and 0 and 5.
        retractedInOrder(apart(500, 300, 100, 110, 310, 510), 6, 5, 4, 3);
    }

    private static void leastHigherNumberThen() {
        // 0 could merge with 1 and with 2, wherever these lie.
        retractedInOrder(apart(110, 120, 100), 3, 1, 2);
        retractedInOrder(apart(110, 100, 120), 3, 1, 2);
        // 0 could merge with 2 alone, but then also with 1.
        retractedInOrder(apart(100, 120, 110), 3, 2, 1);
    }

    private static void untilNoPairIsLeft() {
        BurstGrouper x = new BurstGrouper();
        x.setGap(0, 1);
        for (int k = 0; k < 99; k++) {
            x.add(0, 50 * (99 - k), 1);
        }
        x.setGap(0, 50);
        Check.due("99 bursts", x.burstCount(), 99);
        Check.due("the hundredth joins the least number", x.add(0, 0, 1), 0);
        Check.due("one is left", x.burstCount(), 1);
        Check.due("first time", x.burst(0, 1), 0);
        Check.due("last time", x.burst(0, 2), 4950);
    }

    private static void lowerNumberLiesLater() {
        BurstGrouper x = apart(120, 100);
        x.setGap(0, 10);
        Check.due("the lower number", x.add(0, 110, 7), 0);
        Check.due("the lesser first time", x.burst(0, 1), 100);
        Check.due("the greater last time", x.burst(0, 2), 120);
        Check.due("all records", x.burst(0, 3), 3);
        Check.throwing("the other one vanished", INDEX, () -> x.burst(1, 0));
        Check.throwing("and the record's own", INDEX, () -> x.burst(2, 0));
    }

    private static void oneInsideTheOther() {
        // 0 takes 1 and goes from 100 to 110 then, so that 2 lies inside of it.
        BurstGrouper x = apart(100, 110, 105);
        x.setGap(0, 10);
        x.add(0, 9999, 0);
        Check.due("first time", x.burst(0, 1), 100);
        Check.due("last time", x.burst(0, 2), 110);
        Check.due("records", x.burst(0, 3), 3);
        Check.due("a record inside", x.add(0, 107, 0), 0);
        Check.due("the first time stays", x.burst(0, 1), 100);
        Check.due("the last time stays", x.burst(0, 2), 110);
    }

    private static void numbersFromZero() {
        BurstGrouper x = new BurstGrouper();
        x.advance(10);
        Check.due("a late one forms none", x.add(0, 9, 1), -1);
        Check.throwing("nor does a refused one", ARGUMENT, () -> x.add(0, 10000, 1));
        Check.due("the first", x.add(0, 10, 1), 0);
        Check.due("joins, but number 1 is used up", x.add(0, 11, 1), 0);
        Check.due("the next", x.add(1, 11, 1), 2);
        Check.throwing("1 vanished", INDEX, () -> x.isClosed(1));
        Check.due("closed ones keep theirs", x.advance(20000), 2);
        Check.due("the first of them", x.burst(0, 0), 0);
        Check.due("the other", x.burst(2, 0), 1);
    }

    private static void numbersUpToTheLast() {
        BurstGrouper x = new BurstGrouper();
        for (int k = 0; k < 99; k++) {
            x.add(0, 10, 1);
        }
        Check.due("99 numbers were used up", x.add(1, 10, 1), 99);
        Check.due("its key", x.burst(99, 0), 1);
        Check.throwing("98 vanished", INDEX, () -> x.burst(98, 0));
        Check.throwing("100 was never formed", INDEX, () -> x.burst(100, 0));
    }

    private static void closedNeverMerge() {
        BurstGrouper x = new BurstGrouper();
        x.setLateness(0);
        x.add(0, 100, 1);
        x.advance(111);
        Check.due("the final firing", x.firing(0, 0), 1);
        Check.due("closed", x.isClosed(0), true);
        x.setLateness(100);
        Check.due("the same time", x.add(0, 100, 2), 1);
        x.setGap(0, 50);
        Check.due("a greater gap", x.add(0, 101, 4), 1);
        Check.due("it stays", x.burst(0, 3), 1);
        x.setLateness(0);
        Check.due("the other one closes", x.advance(152), 1);
        x.setLateness(100);
        Check.due("between two closed ones", x.add(0, 100, 8), 3);
        Check.due("three bursts", x.burstCount(), 3);
    }

    private static void closedOneOfAHigherNumber() {
        BurstGrouper x = new BurstGrouper();
        x.add(0, 130, 1);
        x.add(0, 100, 2);
        Check.due("the higher number closes first", x.advance(111), 1);
        x.setGap(0, 50);
        Check.due("near both", x.add(0, 115, 4), 0);
        Check.due("the closed one stays", x.burst(1, 3), 1);
        Check.due("with its times", x.burst(0, 1), 115);
        Check.due("two bursts", x.burstCount(), 2);
    }

    private static void sumsThatWrap() {
        BurstGrouper x = new BurstGrouper();
        x.add(0, 10, Integer.MAX_VALUE);
        Check.due("the greatest int", x.burst(0, 4), Integer.MAX_VALUE);
        x.add(0, 10, 1);
        Check.due("and one", x.burst(0, 4), Integer.MIN_VALUE);
        x.add(0, 10, -1);
        Check.due("and back", x.burst(0, 4), Integer.MAX_VALUE);
        x.add(1, 10, Integer.MIN_VALUE);
        Check.due("the least int", x.burst(3, 4), Integer.MIN_VALUE);
        x.add(1, 10, Integer.MIN_VALUE);
        Check.due("twice", x.burst(3, 4), 0);
        x.add(1, 10, Integer.MIN_VALUE);
        x.add(1, 10, -1);
        Check.due("and below", x.burst(3, 4), Integer.MAX_VALUE);
    }

    private static void greatestAndLeastOfTheOutermost() {
        BurstGrouper x = new BurstGrouper();
        x.setFold(0, 1);
        x.setFold(1, 2);
        x.add(0, 10, Integer.MIN_VALUE);
        x.add(1, 10, Integer.MAX_VALUE);
        Check.due("the greatest of the least int alone", x.burst(0, 4), Integer.MIN_VALUE);
        Check.due("the least of the greatest int alone", x.burst(1, 4), Integer.MAX_VALUE);
        x.add(0, 10, Integer.MAX_VALUE);
        x.add(1, 10, Integer.MIN_VALUE);
        Check.due("the greatest", x.burst(0, 4), Integer.MAX_VALUE);
        Check.due("the least", x.burst(1, 4), Integer.MIN_VALUE);
        x.setFold(0, 3);
        Check.due("their number", x.burst(0, 4), 2);
    }

    private static void wayWhenTheResultIsAskedFor() {
        BurstGrouper x = new BurstGrouper();
        x.setFold(0, 2);
        x.add(0, 10, 8);
        x.add(0, 10, 3);
        x.advance(21);
        Check.due("fired with the least", x.firing(0, 2), 3);
        x.setFold(0, 1);
        Check.due("asked for with the greatest, though closed", x.burst(0, 4), 8);
        Check.due("the firing stays", x.firing(0, 2), 3);
    }

    private static void watermarkNeverDecreases() {
        BurstGrouper x = new BurstGrouper();
        Check.due("at first", x.watermark(), 0);
        Check.throwing("below the first", ARGUMENT, () -> x.advance(-1));
        Check.due("to the first", x.advance(0), 0);
        x.advance(20000);
        Check.throwing("one less", ARGUMENT, () -> x.advance(19999));
        Check.due("it stays", x.watermark(), 20000);
        Worked.write(x, "w9999;");
        Check.throwing("nor by a text", STATE, x::read);
        Check.due("it stays still", x.watermark(), 20000);
        Check.refused("one less", Worked::some, ARGUMENT, y -> y.advance(59));
    }

    private static void latenessRange() {
        BurstGrouper x = new BurstGrouper();
        Check.due("at first", x.setLateness(0), 0);
        Check.due("the least", x.setLateness(100), 0);
        Check.due("the greatest", x.setLateness(100), 100);
        Check.refused("-1", Worked::some, ARGUMENT, y -> y.setLateness(-1));
        Check.refused("101", Worked::some, ARGUMENT, y -> y.setLateness(101));
    }

    private static void justLate() {
        BurstGrouper x = new BurstGrouper();
        Check.due("time 0 at watermark 0", x.add(0, 0, 1), 0);
        x.advance(1);
        Check.due("time 0 at watermark 1", x.add(0, 0, 1), -1);
        Check.due("time 1 at watermark 1", x.add(0, 1, 1), 0);
        x.advance(9999);
        Check.due("time 9998 at watermark 9999", x.add(0, 9998, 1), -1);
        Check.due("time 9999 at watermark 9999", x.add(0, 9999, 1), 2);
        x.advance(10000);
        Check.due("time 9999 at watermark 10000", x.add(0, 9999, 1), -1);
        Check.due("late ones", x.lateCount(), 3);
    }

    private static void justLateWithTheGreatestLateness() {
        BurstGrouper x = new BurstGrouper();
        x.setLateness(100);
        x.advance(100);
        Check.due("time 0 at watermark 100", x.add(0, 0, 1), 0);
        x.advance(101);
        Check.due("time 0 at watermark 101", x.add(0, 0, 1), -1);
        Check.due("time 1 at watermark 101", x.add(0, 1, 1), 0);
        x.advance(10099);
        Check.due("time 9999 at watermark 10099", x.add(0, 9999, 1), 2);
        x.advance(10100);
        Check.due("time 9999 at watermark 10100", x.add(0, 9999, 1), -1);
    }

    private static void lateRecordLeavesNoTrace() {
        BurstGrouper x = new BurstGrouper();
        x.setTrigger(1);
        x.add(0, 100, 1);
        x.add(0, 130, 1);
        x.setGap(0, 50);
        x.advance(150);
        Check.due("late", x.add(0, 149, 1), -1);
        Check.due("counted", x.lateCount(), 1);
        Check.due("not kept", x.recordCount(), 2);
        Check.due("merges none", x.burstCount(), 2);
        Check.due("fires none", x.firingCount(), 2);
        Check.due("uses up no number", x.add(1, 150, 1), 2);
    }
}
