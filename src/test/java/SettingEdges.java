/** The boundary cases of promises 1 to 6: a new object, setGap, setFold, setLateness, setTrigger, reset. */
final class SettingEdges {
    private static final Class<IndexOutOfBoundsException> INDEX = IndexOutOfBoundsException.class;
    private static final Class<IllegalArgumentException> ARGUMENT = IllegalArgumentException.class;
    private static final int[] NO_KEYS = {-1, 8, Integer.MIN_VALUE, Integer.MAX_VALUE};

    private SettingEdges() {
    }

    static void all(Sentences s) {
        s.test("1: Creates a grouper without records", SettingEdges::nothingYet);
        s.test("1: Creates a grouper without records", SettingEdges::objectsOfTheirOwn);
        s.test("2: Sets the gap of a key.", SettingEdges::gapOfOneKeyAlone);
        s.test("2: Bursts are not merged by that", SettingEdges::gapFromTheNextRecord);
        s.test("2: Bursts are not merged by that", SettingEdges::gapFromTheNextAdvance);
        s.test("2: `key`", SettingEdges::keysWithGaps);
        s.test("2: `gap`", SettingEdges::gapsThatAreTaken);
        s.test("2: Returns the previous gap", SettingEdges::previousGap);
        s.test("2: Throws `IndexOutOfBoundsException`", SettingEdges::noKeyWithGap);
        s.test("2: Throws `IllegalArgumentException`", SettingEdges::gapsThatAreRefused);
        s.test("3: Sets the way of folding", SettingEdges::wayOfOneKeyAlone);
        s.test("3: `key`", SettingEdges::keysWithWays);
        s.test("3: `way`", SettingEdges::waysThatAreTaken);
        s.test("3: Returns the previous way", SettingEdges::previousWay);
        s.test("3: Throws `IndexOutOfBoundsException`", SettingEdges::noKeyWithWay);
        s.test("3: Throws `IllegalArgumentException`", SettingEdges::waysThatAreRefused);
        s.test("4: Sets the lateness", SettingEdges::latenessFromNowOn);
        s.test("4: `lateness`", SettingEdges::latenessesThatAreTaken);
        s.test("4: Returns the previous lateness", SettingEdges::previousLateness);
        s.test("4: Throws `IllegalArgumentException`", SettingEdges::latenessesThatAreRefused);
        s.test("5: Sets the trigger", SettingEdges::triggerFromTheNextRecord);
        s.test("5: `trigger`", SettingEdges::triggersThatAreTaken);
        s.test("5: Returns the previous trigger", SettingEdges::previousTrigger);
        s.test("5: Throws `IllegalArgumentException`", SettingEdges::triggersThatAreRefused);
        s.test("6: Removes all records, bursts and firings", SettingEdges::resetMakesAllAsAtFirst);
        s.test("6: Removes all records, bursts and firings", SettingEdges::resetOfANewObject);
        s.test("6: The input, the error position and what was saved stay", SettingEdges::resetLeavesTheRest);
        s.test("6: Returns the number of records that were kept", SettingEdges::resetReturns);
    }

    private static void nothingYet() {
        BurstGrouper x = new BurstGrouper();
        Check.due("records", x.recordCount(), 0);
        Check.due("bursts", x.burstCount(), 0);
        Check.due("firings", x.firingCount(), 0);
        Check.throwing("no burst", INDEX, () -> x.burst(0, 0));
        Check.throwing("no firing", INDEX, () -> x.firing(0, 0));
        Check.throwing("no closing", java.util.NoSuchElementException.class, x::nextClosing);
        Check.throwing("no text", ARGUMENT, x::read);
        Check.throwing("nothing saved", IllegalStateException.class, x::restore);
    }

    private static void objectsOfTheirOwn() {
        String fresh = Picture.whole(new BurstGrouper());
        Worked.some();
        Worked.fullOfRecords();
        Check.due("one beside others", Picture.whole(new BurstGrouper()), fresh);
    }

    private static void gapOfOneKeyAlone() {
        BurstGrouper x = new BurstGrouper();
        x.setGap(3, 50);
        for (int key = 0; key < 8; key++) {
            Check.due("gap of " + key, x.setGap(key, 20), key == 3 ? 50 : 10);
        }
    }

    private static void gapFromTheNextRecord() {
        BurstGrouper x = new BurstGrouper();
        x.add(0, 100, 1);
        x.add(0, 111, 1);
        x.setGap(0, 11);
        Check.due("none merged", x.burstCount(), 2);
        Check.due("the next record merges", x.add(0, 100, 1), 0);
        Check.due("one burst", x.burstCount(), 1);
    }

    private static void gapFromTheNextAdvance() {
        BurstGrouper x = new BurstGrouper();
        x.add(0, 100, 1);
        x.setGap(0, 11);
        Check.due("a greater one keeps it open", x.advance(111), 0);
        x.setGap(0, 10);
        Check.due("open until the next advance", x.openCount(), 1);
        Check.due("a lesser one lets it close", x.advance(111), 1);
    }

    private static void keysWithGaps() {
        BurstGrouper x = new BurstGrouper();
        Check.due("0", x.setGap(0, 20), 10);
        Check.due("7", x.setGap(7, 30), 10);
        Check.due("0 again", x.setGap(0, 20), 20);
        Check.due("7 again", x.setGap(7, 30), 30);
    }

    private static void gapsThatAreTaken() {
        BurstGrouper x = new BurstGrouper();
        for (int gap = 1; gap <= 50; gap++) {
            x.setGap(0, gap);
            Check.due("gap", x.setGap(0, gap), gap);
        }
    }

    private static void previousGap() {
        BurstGrouper x = new BurstGrouper();
        Check.due("the first", x.setGap(0, 1), 10);
        Check.due("the least", x.setGap(0, 50), 1);
        Check.due("the greatest", x.setGap(0, 10), 50);
        Check.throwing("refused", ARGUMENT, () -> x.setGap(0, 51));
        Check.due("not the refused one", x.setGap(0, 10), 10);
    }

    private static void noKeyWithGap() {
        for (int key : NO_KEYS) {
            Check.refused("key " + key, Worked::some, INDEX, x -> x.setGap(key, 5));
        }
    }

    private static void gapsThatAreRefused() {
        for (int gap : new int[] {0, 51, -1, Integer.MIN_VALUE, Integer.MAX_VALUE}) {
            Check.refused("gap " + gap, Worked::some, ARGUMENT, x -> x.setGap(2, gap));
        }
    }

    private static void wayOfOneKeyAlone() {
        BurstGrouper x = new BurstGrouper();
        x.setFold(3, 2);
        for (int key = 0; key < 8; key++) {
            Check.due("way of " + key, x.setFold(key, 1), key == 3 ? 2 : 0);
        }
    }

    private static void keysWithWays() {
        BurstGrouper x = new BurstGrouper();
        Check.due("0", x.setFold(0, 1), 0);
        Check.due("7", x.setFold(7, 3), 0);
        Check.due("0 again", x.setFold(0, 1), 1);
        Check.due("7 again", x.setFold(7, 3), 3);
    }

    private static void waysThatAreTaken() {
        BurstGrouper x = new BurstGrouper();
        for (int way = 0; way <= 3; way++) {
            x.setFold(0, way);
            Check.due("way", x.setFold(0, way), way);
        }
    }

    private static void previousWay() {
        BurstGrouper x = new BurstGrouper();
        Check.due("the first", x.setFold(0, 3), 0);
        Check.due("the greatest", x.setFold(0, 0), 3);
        Check.throwing("refused", ARGUMENT, () -> x.setFold(0, 4));
        Check.due("not the refused one", x.setFold(0, 1), 0);
    }

    private static void noKeyWithWay() {
        for (int key : NO_KEYS) {
            Check.refused("key " + key, Worked::some, INDEX, x -> x.setFold(key, 2));
        }
    }

    private static void waysThatAreRefused() {
        for (int way : new int[] {-1, 4, Integer.MIN_VALUE, Integer.MAX_VALUE}) {
            Check.refused("way " + way, Worked::some, ARGUMENT, x -> x.setFold(2, way));
        }
    }

    private static void latenessFromNowOn() {
        BurstGrouper x = new BurstGrouper();
        x.advance(100);
        Check.due("late", x.isLate(50), true);
        x.setLateness(50);
        Check.due("no more", x.isLate(50), false);
        x.setLateness(49);
        Check.due("late again", x.isLate(50), true);
    }

    private static void latenessesThatAreTaken() {
        BurstGrouper x = new BurstGrouper();
        for (int lateness = 0; lateness <= 100; lateness++) {
            x.setLateness(lateness);
            Check.due("lateness", x.setLateness(lateness), lateness);
        }
    }

    private static void previousLateness() {
        BurstGrouper x = new BurstGrouper();
        Check.due("the first", x.setLateness(100), 0);
        Check.due("the greatest", x.setLateness(0), 100);
        Check.throwing("refused", ARGUMENT, () -> x.setLateness(101));
        Check.due("not the refused one", x.setLateness(1), 0);
    }

    private static void latenessesThatAreRefused() {
        for (int lateness : new int[] {-1, 101, Integer.MIN_VALUE, Integer.MAX_VALUE}) {
            Check.refused("lateness " + lateness, Worked::some, ARGUMENT, x -> x.setLateness(lateness));
        }
    }

    private static void triggerFromTheNextRecord() {
        BurstGrouper x = new BurstGrouper();
        x.add(0, 10, 1);
        x.setTrigger(1);
        Check.due("none by setting it", x.firingCount(), 0);
        x.add(0, 10, 1);
        Check.due("one by the next record", x.firingCount(), 1);
    }

    private static void triggersThatAreTaken() {
        BurstGrouper x = new BurstGrouper();
        for (int trigger = 0; trigger <= 10; trigger++) {
            x.setTrigger(trigger);
            Check.due("trigger", x.setTrigger(trigger), trigger);
        }
    }

    private static void previousTrigger() {
        BurstGrouper x = new BurstGrouper();
        Check.due("the first", x.setTrigger(10), 0);
        Check.due("the greatest", x.setTrigger(0), 10);
        Check.throwing("refused", ARGUMENT, () -> x.setTrigger(11));
        Check.due("not the refused one", x.setTrigger(1), 0);
    }

    private static void triggersThatAreRefused() {
        for (int trigger : new int[] {-1, 11, Integer.MIN_VALUE, Integer.MAX_VALUE}) {
            Check.refused("trigger " + trigger, Worked::some, ARGUMENT, x -> x.setTrigger(trigger));
        }
    }

    private static void resetMakesAllAsAtFirst() {
        String fresh = Picture.of(new BurstGrouper()).replaceAll("errorPosition: .*", "");
        BurstGrouper x = Worked.some();
        x.reset();
        Check.due("from something of everything", Picture.of(x).replaceAll("errorPosition: .*", ""), fresh);
        BurstGrouper y = Worked.fullOfRecords();
        y.advance(20000);
        y.reset();
        Check.due("from 100 closed records", Picture.of(y).replaceAll("errorPosition: .*", ""), fresh);
        Check.due("the first number again", y.add(0, 0, 1), 0);
        Check.due("which is open", y.isClosed(0), false);
        Check.due("and dirty", y.isDirty(0), true);
        Check.due("and has not fired", y.burst(0, 5), 0);
    }

    private static void resetOfANewObject() {
        BurstGrouper x = new BurstGrouper();
        Check.due("nothing was kept", x.reset(), 0);
        Check.due("twice", x.reset(), 0);
        Check.due("as at first", Picture.whole(x), Picture.whole(new BurstGrouper()));
    }

    private static void resetLeavesTheRest() {
        BurstGrouper x = Worked.some();
        x.reset();
        Check.due("the error position", x.errorPosition(), 5);
        Check.due("the input", x.append(';'), 9);
        Check.due("is one entry", x.read(), 1);
        Check.due("which is a record", x.burst(0, 4), -5);
        Check.due("what was saved", x.restore(), 4);
        Check.due("with its gap", x.setGap(2, 1), 20);
        BurstGrouper y = Worked.unsaved();
        y.reset();
        Check.throwing("nothing is saved by it", IllegalStateException.class, y::restore);
        Check.throwing("nor is an error position kept", java.util.NoSuchElementException.class, y::errorPosition);
    }

    private static void resetReturns() {
        BurstGrouper x = new BurstGrouper();
        Check.due("none", x.reset(), 0);
        x.add(0, 10, 1);
        Check.due("one", x.reset(), 1);
        Check.due("none again", x.reset(), 0);
        Check.due("a hundred", Worked.fullOfRecords().reset(), 100);
        x.advance(10);
        x.add(0, 9, 1);
        Check.due("a late one was not kept", x.reset(), 0);
    }
}
