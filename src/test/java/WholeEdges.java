/** The boundary cases of the document's first and last part: how long an object is used, and that it stands alone. */
final class WholeEdges {
    private WholeEdges() {
    }

    static void all(Sentences s) {
        s.test("What it is: An object is used for at most 512 calls", WholeEdges::upToTheLastCall);
        s.test("What it is: An object is used for at most 512 calls", WholeEdges::onlyQuestions);
        s.test("Not promised: Nothing is promised beyond", WholeEdges::objectsStandAlone);
    }

    /** 501 calls that change something, and 11 behind them whose answers tell of all of these. */
    private static void upToTheLastCall() {
        BurstGrouper x = new BurstGrouper();
        x.setTrigger(1);
        for (int k = 0; k < 100; k++) {
            Check.due("a burst by itself", x.add(k % 8, 20 * k, 7), k);
        }
        for (int k = 0; k < 200; k++) {
            Check.due("the previous way", x.setFold(0, k % 2 == 0 ? 3 : 0), k % 2 == 0 ? 0 : 3);
            Check.due("a retraction and an early firing", x.fire(0), 2);
        }
        Check.due("call 502, closed", x.advance(20000), 100);
        Check.due("call 503, in the log", x.firingCount(), 60);
        Check.due("call 504, early", x.firings(0), 300);
        Check.due("call 505, final", x.firings(1), 100);
        Check.due("call 506, retractions", x.firings(2), 200);
        Check.due("call 507, the balance", x.balance(), 1400L);
        Check.due("call 508, standing", x.standing(), 700L);
        Check.due("call 509, the oldest one in the log", x.firing(0, 1), 40);
        Check.due("call 510, the newest one in the log", x.firing(59, 1), 99);
        Check.due("call 511, merges", x.mergeCount(), 0);
        Check.due("call 512, records", x.recordCount(), 100);
    }

    private static void onlyQuestions() {
        BurstGrouper x = new BurstGrouper();
        for (int call = 1; call <= 511; call++) {
            Check.due("late", x.isLate(0), false);
        }
        Check.due("call 512", x.add(0, 0, 1), 0);
    }

    private static void objectsStandAlone() {
        BurstGrouper x = Worked.some();
        String want = Picture.whole(Worked.some());
        BurstGrouper other = Worked.fullOfRecords();
        other.reset();
        other.setGap(0, 50);
        other.add(0, 10, 1);
        other.save();
        Check.due("an object beside which another one was used", Picture.whole(x), want);
    }
}
