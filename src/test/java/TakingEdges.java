/** The boundary cases of promises 7 to 12: add, advance, watermark, lateCount, isLate, recordCount. */
final class TakingEdges {
    private static final Class<IndexOutOfBoundsException> INDEX = IndexOutOfBoundsException.class;
    private static final Class<IllegalArgumentException> ARGUMENT = IllegalArgumentException.class;
    private static final Class<IllegalStateException> STATE = IllegalStateException.class;

    private TakingEdges() {
    }

    static void all(Sentences s) {
        s.test("7: Takes a record", TakingEdges::takenWhole);
        s.test("7: `key`", TakingEdges::keysThatAreTaken);
        s.test("7: `time`", TakingEdges::timesThatAreTaken);
        s.test("7: `value`", TakingEdges::anyValue);
        s.test("7: Returns the burst", TakingEdges::burstOrLate);
        s.test("7: Throws `IndexOutOfBoundsException`", TakingEdges::noSuchKey);
        s.test("7: Throws `IllegalArgumentException`", TakingEdges::timesThatAreRefused);
        s.test("7: Throws `IllegalStateException`", TakingEdges::fullAndNotLate);
        s.test("7: Throws `IllegalStateException`", TakingEdges::fullButLate);
        s.test("8: Advances the watermark", TakingEdges::advancesByOneAndByAll);
        s.test("8: `time`", TakingEdges::watermarksThatAreTaken);
        s.test("8: Returns the number of bursts that close", TakingEdges::numberThatClose);
        s.test("8: Throws `IllegalArgumentException`", TakingEdges::watermarksThatAreRefused);
        s.test("9: Returns the watermark", TakingEdges::watermarkAfterAllThatMovesIt);
        s.test("10: Returns the number of late records so far", TakingEdges::lateCountOfEachKind);
        s.test("11: Returns whether a record with a time would be late", TakingEdges::justLateTimes);
        s.test("11: Returns whether a record with a time would be late", TakingEdges::anyTimeMayBeAsked);
        s.test("12: Returns the number of records that are kept", TakingEdges::keptRecords);
        s.test("12: Returns 0 to 100", TakingEdges::noneToHundred);
    }

    private static void takenWhole() {
        BurstGrouper x = new BurstGrouper();
        x.add(6, 1234, -5);
        Check.due("key", x.burst(0, 0), 6);
        Check.due("time", x.record(0, 0, true), 1234);
        Check.due("value", x.record(0, 0, false), -5);
        Check.due("one record", x.burst(0, 3), 1);
    }

    private static void keysThatAreTaken() {
        BurstGrouper x = new BurstGrouper();
        for (int key = 0; key <= 7; key++) {
            Check.due("burst", x.add(key, 5, 1), key);
            Check.due("key", x.burst(key, 0), key);
        }
    }

    private static void timesThatAreTaken() {
        BurstGrouper x = new BurstGrouper();
        Check.due("the greatest", x.add(0, 9999, 1), 0);
        Check.due("the least", x.add(0, 0, 1), 1);
        Check.due("kept as it is", x.record(0, 0, true), 9999);
        Check.due("also", x.record(1, 0, true), 0);
    }

    private static void anyValue() {
        BurstGrouper x = new BurstGrouper();
        int[] values = {Integer.MIN_VALUE, -1, 0, 1, Integer.MAX_VALUE};
        for (int k = 0; k < values.length; k++) {
            x.add(k, 5, values[k]);
            Check.due("value", x.record(k, 0, false), values[k]);
            Check.due("result", x.burst(k, 4), values[k]);
        }
    }

    private static void burstOrLate() {
        BurstGrouper x = new BurstGrouper();
        Check.due("its own", x.add(0, 100, 1), 0);
        Check.due("its own, far away", x.add(0, 200, 1), 1);
        Check.due("the one that it joins", x.add(0, 200, 1), 1);
        x.advance(101);
        Check.due("late", x.add(0, 100, 1), -1);
        Check.due("not late", x.add(0, 101, 1), 0);
    }

    private static void noSuchKey() {
        for (int key : new int[] {-1, 8, Integer.MIN_VALUE, Integer.MAX_VALUE}) {
            Check.refused("key " + key, Worked::some, INDEX, x -> x.add(key, 90, 5));
        }
    }

    private static void timesThatAreRefused() {
        for (int time : new int[] {-1, 10000, Integer.MIN_VALUE, Integer.MAX_VALUE}) {
            Check.refused("time " + time, Worked::some, ARGUMENT, x -> x.add(2, time, 5));
        }
    }

    private static void fullAndNotLate() {
        Check.refused("just not late", Worked::fullOfRecords, STATE, x -> x.add(2, 56, 5));
        Check.refused("one that would join", Worked::fullOfRecords, STATE, x -> x.add(2, 90, 5));
        Check.refused("the greatest time", Worked::fullOfRecords, STATE, x -> x.add(2, 9999, 5));
        BurstGrouper x = Worked.fullOfRecords();
        x.advance(20000);
        x.reset();
        Check.due("room again", x.add(2, 56, 5), 0);
    }

    private static void fullButLate() {
        BurstGrouper x = Worked.fullOfRecords();
        Check.due("just late", x.add(2, 55, 5), -1);
        Check.due("counted", x.lateCount(), 2);
        x.advance(20000);
        Check.due("then all are late", x.add(2, 9999, 5), -1);
        Check.due("records", x.recordCount(), 100);
    }

    private static void advancesByOneAndByAll() {
        BurstGrouper x = new BurstGrouper();
        for (int mark = 0; mark < 3; mark++) {
            x.advance(mark);
            Check.due("by one", x.watermark(), mark);
        }
        x.advance(20000);
        Check.due("by all", x.watermark(), 20000);
    }

    private static void watermarksThatAreTaken() {
        BurstGrouper x = new BurstGrouper();
        Check.due("0", x.advance(0), 0);
        Check.due("above all times", x.advance(10000), 0);
        Check.due("the greatest", x.advance(20000), 0);
        Check.due("the greatest again", x.advance(20000), 0);
        Check.due("watermark", x.watermark(), 20000);
    }

    private static void numberThatClose() {
        BurstGrouper x = new BurstGrouper();
        Check.due("none is there", x.advance(1), 0);
        for (int k = 0; k < 100; k++) {
            x.add(k % 8, 9000 - 90 * k, 1);
        }
        Check.due("none closes", x.advance(100), 0);
        Check.due("one closes", x.advance(101), 1);
        Check.due("all others close", x.advance(20000), 99);
        Check.due("none is left", x.advance(20000), 0);
    }

    private static void watermarksThatAreRefused() {
        for (int time : new int[] {59, 0, -1, 20001, Integer.MIN_VALUE, Integer.MAX_VALUE}) {
            Check.refused("time " + time, Worked::some, ARGUMENT, x -> x.advance(time));
        }
        Check.refused("below 0 at first", BurstGrouper::new, ARGUMENT, x -> x.advance(-1));
        BurstGrouper x = new BurstGrouper();
        x.advance(20000);
        Check.throwing("above the greatest", ARGUMENT, () -> x.advance(20001));
    }

    private static void watermarkAfterAllThatMovesIt() {
        BurstGrouper x = new BurstGrouper();
        Check.due("at first", x.watermark(), 0);
        x.advance(5);
        Check.due("advanced", x.watermark(), 5);
        x.save();
        Worked.write(x, "w9;");
        x.read();
        Check.due("by a text", x.watermark(), 9);
        x.restore();
        Check.due("restored, which takes it back", x.watermark(), 5);
        x.reset();
        Check.due("reset", x.watermark(), 0);
    }

    private static void lateCountOfEachKind() {
        BurstGrouper x = new BurstGrouper();
        x.advance(100);
        for (int k = 1; k <= 150; k++) {
            x.add(k % 8, 99, 1);
            Check.due("late so far", x.lateCount(), k);
        }
        x.add(0, 100, 1);
        x.isLate(99);
        Check.due("not by one that is kept, nor by asking", x.lateCount(), 150);
    }

    private static void justLateTimes() {
        BurstGrouper x = new BurstGrouper();
        Check.due("0 at first", x.isLate(0), false);
        Check.due("-1 at first", x.isLate(-1), true);
        x.advance(20000);
        Check.due("equal", x.isLate(20000), false);
        Check.due("one less", x.isLate(19999), true);
        x.setLateness(100);
        Check.due("equal with lateness", x.isLate(19900), false);
        Check.due("one less with lateness", x.isLate(19899), true);
    }

    private static void anyTimeMayBeAsked() {
        BurstGrouper x = new BurstGrouper();
        for (int lateness : new int[] {0, 1, 100}) {
            x.setLateness(lateness);
            Check.due("greatest int", x.isLate(Integer.MAX_VALUE), false);
            Check.due("near it", x.isLate(Integer.MAX_VALUE - 99), false);
            Check.due("least int", x.isLate(Integer.MIN_VALUE), true);
        }
    }

    private static void keptRecords() {
        BurstGrouper x = new BurstGrouper();
        x.add(0, 10, 1);
        x.add(0, 10, 1);
        Check.due("merged ones", x.recordCount(), 2);
        x.advance(21);
        Check.due("closed ones", x.recordCount(), 2);
        x.add(0, 20, 1);
        Check.due("no late one", x.recordCount(), 2);
    }

    private static void noneToHundred() {
        BurstGrouper x = new BurstGrouper();
        Check.due("none", x.recordCount(), 0);
        for (int k = 1; k <= 100; k++) {
            x.add(0, 10, 1);
            Check.due("records", x.recordCount(), k);
        }
        Check.throwing("full", STATE, () -> x.add(0, 10, 1));
        Check.due("no more", x.recordCount(), 100);
    }
}
