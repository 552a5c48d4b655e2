/** The boundary cases of the description's parts "Firings", "Corrections" and "Log". */
final class FiringEdges {
    private static final Class<IndexOutOfBoundsException> INDEX = IndexOutOfBoundsException.class;
    private static final Class<IllegalArgumentException> ARGUMENT = IllegalArgumentException.class;

    private FiringEdges() {
    }

    static void all(Sentences s) {
        s.test("Firings: A firing of a burst is early, final, or a retraction", FiringEdges::firingStaysAsItWas);
        s.test("Firings: After a record was kept", FiringEdges::triggerZero);
        s.test("Firings: After a record was kept", FiringEdges::triggerOne);
        s.test("Firings: After a record was kept", FiringEdges::triggerTen);
        s.test("Firings: After a record was kept", FiringEdges::triggerBesideTheRange);
        s.test("Firings: After a record was kept", FiringEdges::multiplesAfterMerging);
        s.test("Firings: After a record was kept", FiringEdges::multipleThatIsReachedByNoRecord);
        s.test("Firings: When the watermark advances", FiringEdges::justNotAndJustClosing);
        s.test("Firings: When the watermark advances", FiringEdges::outermostClosing);
        s.test("Firings: When the watermark advances", FiringEdges::orderOfLastTimesAndNumbers);
        s.test("Firings: When the watermark advances", FiringEdges::orderByLastTimesNotByClosing);
        s.test("Firings: When the watermark advances", FiringEdges::closedOnesFireNoMore);
        s.test("Corrections: A burst that fires, early or finally", FiringEdges::eachDifferenceAlone);
        s.test("Corrections: A burst that fires, early or finally", FiringEdges::eachDifferenceAloneFinally);
        s.test("Corrections: A burst that fires, early or finally", FiringEdges::noDifferenceEarly);
        s.test("Corrections: A burst that fires, early or finally", FiringEdges::noDifferenceFinally);
        s.test("Corrections: A burst that fires, early or finally", FiringEdges::differenceThatIsTakenBack);
        s.test("Corrections: When a burst vanishes by merging", FiringEdges::vanishingOnesThatHadFired);
        s.test("Corrections: When a burst vanishes by merging", FiringEdges::vanishingOnesThatHadNotFired);
        s.test("Corrections: A retraction has the result and the times", FiringEdges::retractionTakesBackTheLast);
        s.test("Corrections: A retraction has the result and the times", FiringEdges::countsAsNotFired);
        s.test("Log: The log holds the last 60 firings", FiringEdges::logUpToSixty);
        s.test("Log: The log holds the last 60 firings", FiringEdges::twoFiringsAtOnceInAFullLog);
        s.test("Log: The log holds the last 60 firings", FiringEdges::logThatWentRoundOften);
    }

    private static BurstGrouper firedOnce(int way) {
        BurstGrouper x = new BurstGrouper();
        x.setFold(0, way);
        x.add(0, 10, 5);
        x.add(0, 14, 3);
        Check.due("the first firing", x.fire(0), 1);
        return x;
    }

    /** Kind, burst, result, first time, last time and key of a firing. */
    private static void logged(BurstGrouper x, int index, int... due) {
        for (int what = 0; what < due.length; what++) {
            Check.due("firing " + index + ", " + what, x.firing(index, what), due[what]);
        }
    }

    private static void firingStaysAsItWas() {
        BurstGrouper x = firedOnce(0);
        x.add(0, 20, 7);
        x.add(0, 4, 7);
        x.setFold(0, 3);
        logged(x, 0, 0, 0, 8, 10, 14, 0);
        x.advance(31);
        logged(x, 0, 0, 0, 8, 10, 14, 0);
        logged(x, 1, 2, 0, 8, 10, 14, 0);
        logged(x, 2, 1, 0, 4, 4, 20, 0);
        Check.due("three", x.firingCount(), 3);
    }

    private static void triggerZero() {
        BurstGrouper x = new BurstGrouper();
        for (int k = 0; k < 20; k++) {
            x.add(0, 10 + k, 1);
        }
        Check.due("at first none fires", x.firingCount(), 0);
        x.setTrigger(1);
        x.setTrigger(0);
        x.add(0, 40, 1);
        Check.due("nor with 0 again", x.firingCount(), 0);
    }

    private static void triggerOne() {
        BurstGrouper x = new BurstGrouper();
        x.setTrigger(1);
        x.add(0, 10, 1);
        Check.due("the first record", x.firings(0), 1);
        x.add(0, 11, 1);
        Check.due("the second", x.firings(0), 2);
        x.add(1, 11, 1);
        Check.due("another burst", x.firings(0), 3);
    }

    private static void triggerTen() {
        BurstGrouper x = new BurstGrouper();
        x.setTrigger(10);
        for (int k = 1; k <= 21; k++) {
            x.add(0, 10 + k, 1);
            Check.due("early firings after " + k, x.firings(0), k / 10);
        }
        logged(x, 0, 0, 0, 10, 11, 20, 0);
        logged(x, 2, 0, 0, 20, 11, 30, 0);
    }

    private static void triggerBesideTheRange() {
        BurstGrouper x = new BurstGrouper();
        Check.due("at first", x.setTrigger(0), 0);
        Check.due("the least", x.setTrigger(10), 0);
        Check.due("the greatest", x.setTrigger(10), 10);
        Check.refused("-1", Worked::some, ARGUMENT, y -> y.setTrigger(-1));
        Check.refused("11", Worked::some, ARGUMENT, y -> y.setTrigger(11));
    }

    private static void multiplesAfterMerging() {
        for (int trigger = 1; trigger <= 10; trigger++) {
            BurstGrouper x = new BurstGrouper();
            x.add(0, 100, 1);
            x.add(0, 100, 1);
            x.add(0, 120, 1);
            x.setTrigger(trigger);
            Check.due("brings both together", x.add(0, 110, 1), 0);
            Check.due("four records, trigger " + trigger, x.firingCount(), 4 % trigger == 0 ? 1 : 0);
        }
    }

    private static void multipleThatIsReachedByNoRecord() {
        BurstGrouper x = new BurstGrouper();
        x.add(0, 10, 1);
        x.add(0, 11, 1);
        x.add(1, 11, 1);
        x.setTrigger(2);
        Check.due("setTrigger fires none", x.firingCount(), 0);
        x.add(2, 11, 1);
        Check.due("nor does a record of another burst", x.firingCount(), 0);
        x.setGap(0, 20);
        x.setTrigger(0);
        x.add(0, 40, 1);
        x.add(0, 40, 1);
        x.setTrigger(2);
        x.setGap(0, 30);
        x.add(0, 9000, 1);
        Check.due("nor merging that the record only sets off", x.firingCount(), 0);
        Check.due("four records", x.burst(0, 3), 4);
        x.advance(9000);
        Check.due("three fired finally", x.firingCount(), 3);
        x.add(0, 8999, 1);
        Check.due("a late one fires none", x.firingCount(), 3);
    }

    private static void justNotAndJustClosing() {
        BurstGrouper x = new BurstGrouper();
        x.setGap(3, 7);
        x.setLateness(5);
        x.add(3, 100, 1);
        x.add(3, 101, 1);
        Check.due("below", x.advance(112), 0);
        Check.due("equal is not less", x.advance(113), 0);
        Check.due("still open", x.isClosed(0), false);
        Check.due("one more", x.advance(114), 1);
        Check.due("closed", x.isClosed(0), true);
        Check.due("finally", x.firings(1), 1);
    }

    private static void outermostClosing() {
        BurstGrouper x = new BurstGrouper();
        x.setGap(0, 1);
        x.add(0, 0, 1);
        Check.due("the least, equal", x.advance(1), 0);
        Check.due("the least, less", x.advance(2), 1);
        x.setGap(0, 50);
        x.setLateness(100);
        x.add(0, 9999, 1);
        Check.due("the greatest, equal", x.advance(10149), 0);
        Check.due("the greatest, less", x.advance(10150), 1);
        Check.due("nothing is left", x.advance(20000), 0);
    }

    private static void orderOfLastTimesAndNumbers() {
        BurstGrouper x = new BurstGrouper();
        x.add(5, 30, 1);
        x.add(4, 20, 1);
        x.add(3, 30, 1);
        x.add(2, 10, 1);
        x.add(2, 20, 1);
        x.add(1, 20, 1);
        Check.due("all", x.advance(1000), 5);
        int[] due = {1, 3, 5, 0, 2};
        for (int k = 0; k < due.length; k++) {
            Check.due("firing " + k, x.firing(k, 1), due[k]);
        }
    }

    private static void orderByLastTimesNotByClosing() {
        BurstGrouper x = new BurstGrouper();
        x.setGap(0, 50);
        x.setGap(1, 1);
        x.add(1, 101, 1);
        x.add(0, 100, 1);
        Check.due("both at once", x.advance(151), 2);
        Check.due("the lesser last time, which closes later", x.firing(0, 1), 1);
        Check.due("the greater one", x.firing(1, 1), 0);
    }

    private static void closedOnesFireNoMore() {
        BurstGrouper x = new BurstGrouper();
        x.add(0, 10, 1);
        Check.due("closes", x.advance(21), 1);
        x.setFold(0, 3);
        x.setFold(0, 2);
        Check.due("once", x.advance(21), 0);
        Check.due("and never again", x.advance(20000), 0);
        Check.due("one firing", x.firingCount(), 1);
    }

    private static void eachDifferenceAlone() {
        BurstGrouper x = firedOnce(1);
        x.add(0, 12, 6);
        Check.due("the result alone", x.fire(0), 2);
        logged(x, 1, 2, 0, 5, 10, 14, 0);
        logged(x, 2, 0, 0, 6, 10, 14, 0);
        x.add(0, 9, 1);
        Check.due("the first time alone", x.fire(0), 2);
        logged(x, 3, 2, 0, 6, 10, 14, 0);
        logged(x, 4, 0, 0, 6, 9, 14, 0);
        x.add(0, 15, 1);
        Check.due("the last time alone", x.fire(0), 2);
        logged(x, 5, 2, 0, 6, 9, 14, 0);
        logged(x, 6, 0, 0, 6, 9, 15, 0);
    }

    private static void eachDifferenceAloneFinally() {
        int[][] records = {{12, 6}, {9, 1}, {15, 1}};
        for (int[] record : records) {
            BurstGrouper x = firedOnce(1);
            x.add(0, record[0], record[1]);
            Check.due("closes", x.advance(1000), 1);
            Check.due("with a retraction", x.firingCount(), 3);
            logged(x, 1, 2, 0, 5, 10, 14, 0);
            Check.due("final", x.firing(2, 0), 1);
        }
    }

    private static void noDifferenceEarly() {
        BurstGrouper x = firedOnce(1);
        x.setTrigger(1);
        Check.due("nothing came", x.fire(0), 0);
        x.add(0, 12, 4);
        Check.due("a record that changes nothing", x.fire(0), 0);
        Check.due("no firing in the log", x.firingCount(), 1);
        Check.due("nor counted", x.firings(0), 1);
        Check.due("nor of the burst", x.burst(0, 5), 1);
        Check.due("nor in the balance", x.balance(), 5);
    }

    private static void noDifferenceFinally() {
        BurstGrouper x = firedOnce(1);
        x.add(0, 12, 4);
        Check.due("closes", x.advance(1000), 1);
        Check.due("without a retraction", x.firingCount(), 2);
        logged(x, 1, 1, 0, 5, 10, 14, 0);
        Check.due("no retraction", x.firings(2), 0);
        Check.due("of the burst", x.burst(0, 5), 2);
    }

    private static void differenceThatIsTakenBack() {
        BurstGrouper x = firedOnce(0);
        x.add(0, 12, 4);
        Check.due("dirty", x.isDirty(0), true);
        x.add(0, 12, -4);
        Check.due("clean", x.isDirty(0), false);
        Check.due("no difference now", x.fire(0), 0);
    }

    private static void vanishingOnesThatHadFired() {
        BurstGrouper x = new BurstGrouper();
        x.add(0, 100, 1);
        x.add(0, 120, 2);
        x.fire(1);
        x.add(0, 121, 4);
        x.add(0, 110, 8);
        Check.due("one retraction at once", x.firingCount(), 2);
        logged(x, 1, 2, 1, 2, 120, 120, 0);
        x.advance(1000);
        Check.due("and none later", x.firings(2), 1);
    }

    private static void vanishingOnesThatHadNotFired() {
        BurstGrouper x = new BurstGrouper();
        x.add(0, 100, 1);
        x.add(0, 120, 2);
        x.fire(0);
        x.add(0, 110, 8);
        Check.due("the lower one had fired, the others not", x.firingCount(), 1);
    }

    private static void retractionTakesBackTheLast() {
        BurstGrouper x = firedOnce(0);
        x.add(0, 20, 100);
        x.fire(0);
        x.add(0, 21, 1000);
        x.setFold(0, 1);
        Check.due("again", x.fire(0), 2);
        logged(x, 3, 2, 0, 108, 10, 20, 0);
        logged(x, 4, 0, 0, 1000, 10, 21, 0);
    }

    private static void countsAsNotFired() {
        BurstGrouper x = new BurstGrouper();
        x.add(0, 100, 1);
        x.add(0, 120, 2);
        x.fire(0);
        x.fire(1);
        Check.due("both", x.standing(), 3);
        x.add(0, 110, 4);
        Check.due("the one that vanished no more", x.standing(), 1);
        Check.due("retracts and fires", x.fire(0), 2);
        Check.due("until it fires again", x.standing(), 7);
        Check.due("which needs no retraction once more", x.fire(0), 0);
        Check.due("two retractions", x.firings(2), 2);
    }

    /** As many firings as are wanted, the first one with result 0, the next one with 1 and so on. */
    private static BurstGrouper fired(int number) {
        BurstGrouper x = new BurstGrouper();
        x.setTrigger(1);
        for (int k = 0; k < number; k++) {
            x.add(0, 20 * k, k);
        }
        Check.due("firings so far", x.firings(0), number);
        return x;
    }

    private static void logUpToSixty() {
        for (int number : new int[] {0, 1, 59, 60, 61, 100}) {
            BurstGrouper x = fired(number);
            int held = Math.min(60, number);
            Check.due("held of " + number, x.firingCount(), held);
            for (int k = 0; k < held; k++) {
                Check.due("entry " + k + " of " + number, x.firing(k, 2), number - held + k);
            }
            Check.throwing("beyond the last of " + number, INDEX, () -> x.firing(held, 0));
        }
    }

    private static void twoFiringsAtOnceInAFullLog() {
        BurstGrouper x = fired(59);
        x.setTrigger(0);
        x.add(0, 0, 7);
        Check.due("two", x.fire(0), 2);
        Check.due("60", x.firingCount(), 60);
        Check.due("the first is gone", x.firing(0, 2), 1);
        logged(x, 58, 2, 0, 0, 0, 0, 0);
        logged(x, 59, 0, 0, 7, 0, 0, 0);
        x.add(0, 0, 1);
        x.fire(0);
        Check.due("two more are gone", x.firing(0, 2), 3);
        logged(x, 57, 0, 0, 7, 0, 0, 0);
        logged(x, 58, 2, 0, 7, 0, 0, 0);
        logged(x, 59, 0, 0, 8, 0, 0, 0);
    }

    private static void logThatWentRoundOften() {
        BurstGrouper x = new BurstGrouper();
        x.add(0, 10, 1);
        x.add(0, 10, 5);
        for (int k = 0; k < 150; k++) {
            x.setFold(0, 1 + k % 2);
            Check.due("firings", x.fire(0), k == 0 ? 1 : 2);
        }
        Check.due("60 of them", x.firingCount(), 60);
        Check.due("early", x.firings(0), 150);
        Check.due("retractions", x.firings(2), 149);
        for (int k = 0; k < 60; k++) {
            // The least and the greatest take turns; the last one fired was the least, 1.
            logged(x, k, k % 2 == 0 ? 2 : 0, 0, (k + 1) / 2 % 2 == 0 ? 1 : 5);
        }
    }
}
