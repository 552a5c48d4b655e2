import java.util.NoSuchElementException;

/** The boundary cases of the description's part "Exceptions". */
final class ExceptionEdges {
    private static final Class<IndexOutOfBoundsException> INDEX = IndexOutOfBoundsException.class;
    private static final Class<IllegalArgumentException> ARGUMENT = IllegalArgumentException.class;
    private static final Class<IllegalStateException> STATE = IllegalStateException.class;
    private static final Class<NoSuchElementException> NO_ELEMENT = NoSuchElementException.class;

    private ExceptionEdges() {
    }

    static void all(Sentences s) {
        s.test("Exceptions: A method that throws", ExceptionEdges::refusedSettings);
        s.test("Exceptions: A method that throws", ExceptionEdges::refusedRecordsAndWatermarks);
        s.test("Exceptions: A method that throws", ExceptionEdges::refusedQuestionsOfBursts);
        s.test("Exceptions: A method that throws", ExceptionEdges::refusedQuestionsOfKeys);
        s.test("Exceptions: A method that throws", ExceptionEdges::refusedFirings);
        s.test("Exceptions: A method that throws", ExceptionEdges::refusedTextsAndSaving);
        s.test("Exceptions: A method that throws", ExceptionEdges::refusedReadingEmptiesTheInput);
        s.test("Exceptions: If several exceptions apply", ExceptionEdges::severalOfSettingsAndRecords);
        s.test("Exceptions: If several exceptions apply", ExceptionEdges::severalOfBursts);
        s.test("Exceptions: If several exceptions apply", ExceptionEdges::severalOfTexts);
        s.test("Exceptions: Methods whose documentation does not mention a change", ExceptionEdges::onlyQuestions);
        s.test("Exceptions: There is no such burst if it has vanished", ExceptionEdges::vanishedBursts);
    }

    private static void refusedSettings() {
        Check.refused("setGap, key", Worked::some, INDEX, x -> x.setGap(8, 5));
        Check.refused("setGap, gap", Worked::some, ARGUMENT, x -> x.setGap(2, 51));
        Check.refused("setFold, key", Worked::some, INDEX, x -> x.setFold(-1, 2));
        Check.refused("setFold, way", Worked::some, ARGUMENT, x -> x.setFold(2, 4));
        Check.refused("setLateness", Worked::some, ARGUMENT, x -> x.setLateness(101));
        Check.refused("setTrigger", Worked::some, ARGUMENT, x -> x.setTrigger(11));
    }

    private static void refusedRecordsAndWatermarks() {
        Check.refused("add, key", Worked::some, INDEX, x -> x.add(8, 90, 5));
        Check.refused("add, key, late", Worked::some, INDEX, x -> x.add(8, 0, 5));
        Check.refused("add, time", Worked::some, ARGUMENT, x -> x.add(2, 10000, 5));
        Check.refused("add, time below 0, late", Worked::some, ARGUMENT, x -> x.add(2, -1, 5));
        Check.refused("add, full", Worked::fullOfRecords, STATE, x -> x.add(2, 90, 5));
        Check.refused("advance, less", Worked::some, ARGUMENT, x -> x.advance(59));
        Check.refused("advance, too far", Worked::some, ARGUMENT, x -> x.advance(20001));
    }

    private static void refusedQuestionsOfBursts() {
        Check.refused("burst", Worked::some, INDEX, x -> x.burst(1, 0));
        Check.refused("burst, what", Worked::some, ARGUMENT, x -> x.burst(2, 6));
        Check.refused("isClosed", Worked::some, INDEX, x -> x.isClosed(5));
        Check.refused("isDirty", Worked::some, INDEX, x -> x.isDirty(-1));
        Check.refused("record", Worked::some, INDEX, x -> x.record(4, 0, true));
        Check.refused("record, index", Worked::some, NO_ELEMENT, x -> x.record(2, 1, true));
        Check.refused("closesAt", Worked::some, INDEX, x -> x.closesAt(1));
        Check.refused("closesAt, closed", Worked::some, STATE, x -> x.closesAt(0));
    }

    private static void refusedQuestionsOfKeys() {
        Check.refused("burstAt, key", Worked::some, INDEX, x -> x.burstAt(8, 0));
        Check.refused("burstAt, index", Worked::some, NO_ELEMENT, x -> x.burstAt(2, 2));
        Check.refused("joined, key", Worked::some, INDEX, x -> x.joined(8, 90));
        Check.refused("joined, time", Worked::some, ARGUMENT, x -> x.joined(2, 10000));
        Check.refused("joined, none", Worked::some, NO_ELEMENT, x -> x.joined(2, 20));
        Check.refused("averageLength, key", Worked::some, INDEX, x -> x.averageLength(8));
        Check.refused("averageLength, none", Worked::some, ArithmeticException.class, x -> x.averageLength(1));
        Check.refused("regrouped", Worked::some, INDEX, x -> x.regrouped(-1));
        Check.refused("nextClosing", BurstGrouper::new, NO_ELEMENT, x -> x.nextClosing());
    }

    private static void refusedFirings() {
        Check.refused("fire", Worked::some, INDEX, x -> x.fire(4));
        Check.refused("fire, closed", Worked::some, STATE, x -> x.fire(0));
        Check.refused("firing", Worked::some, INDEX, x -> x.firing(5, 0));
        Check.refused("firing, what", Worked::some, ARGUMENT, x -> x.firing(0, 6));
        Check.refused("firings", Worked::some, ARGUMENT, x -> x.firings(3));
    }

    private static void refusedTextsAndSaving() {
        Check.refused("append", Worked::some, ARGUMENT, x -> x.append((char) 127));
        Check.refused("append, full", Worked::fullOfInput, STATE, x -> x.append('0'));
        Check.refused("errorPosition", Worked::unsaved, NO_ELEMENT, x -> x.errorPosition());
        Check.refused("restore", Worked::unsaved, STATE, x -> x.restore());
    }

    /** What reading changes though it throws is told in its own documentation; the rest stays. */
    private static void refusedReadingEmptiesTheInput() {
        BurstGrouper x = Worked.some();
        Worked.write(x, ";w10;");
        String before = Picture.of(x);
        Check.throwing("an entry that throws", STATE, x::read);
        Check.due("all but the input", Picture.of(x), before);
        Check.due("which is empty", x.append('w'), 1);
        Worked.write(x, "80;r1:90=5;r");
        Check.throwing("no text", ARGUMENT, x::read);
        Check.due("the error position", x.errorPosition(), 13);
        Check.due("all but that", Picture.of(x), before.replace("errorPosition: 5\n", "errorPosition: 13\n"));
        Check.due("and the input", x.append('w'), 1);
    }

    private static void severalOfSettingsAndRecords() {
        Check.refused("setGap", Worked::some, INDEX, x -> x.setGap(8, 0));
        Check.refused("setFold", Worked::some, INDEX, x -> x.setFold(8, 4));
        Check.refused("add, key and time", Worked::some, INDEX, x -> x.add(8, 10000, 1));
        Check.refused("add, key, time and full", Worked::fullOfRecords, INDEX, x -> x.add(8, 10000, 1));
        Check.refused("add, key and full", Worked::fullOfRecords, INDEX, x -> x.add(-1, 9000, 1));
        Check.refused("add, time and full", Worked::fullOfRecords, ARGUMENT, x -> x.add(0, 10000, 1));
    }

    private static void severalOfBursts() {
        Check.refused("burst", Worked::some, INDEX, x -> x.burst(1, 6));
        Check.refused("burstAt", Worked::some, INDEX, x -> x.burstAt(8, 99));
        Check.refused("joined, all", Worked::some, INDEX, x -> x.joined(8, 10000));
        Check.refused("joined, key and none", Worked::some, INDEX, x -> x.joined(-1, 5000));
        Check.refused("joined, time and none", Worked::some, ARGUMENT, x -> x.joined(0, 10000));
        Check.refused("record", Worked::some, INDEX, x -> x.record(1, -1, false));
        Check.refused("averageLength", BurstGrouper::new, INDEX, x -> x.averageLength(8));
        Check.refused("firing", Worked::some, INDEX, x -> x.firing(60, 6));
    }

    private static void severalOfTexts() {
        Check.refused("append", Worked::fullOfInput, ARGUMENT, x -> x.append((char) 31));
        BurstGrouper x = Worked.some();
        Worked.write(x, ";w10;x");
        Check.throwing("no text, with an entry that would throw", ARGUMENT, x::read);
        Check.due("the error position", x.errorPosition(), 13);
    }

    private static void onlyQuestions() {
        Check.asked("counts", Worked::some, x -> {
            Check.due("watermark", x.watermark(), 60);
            Check.due("lateCount", x.lateCount(), 1);
            Check.due("recordCount", x.recordCount(), 5);
            Check.due("burstCount", x.burstCount(), 3);
            Check.due("openCount", x.openCount(), 2);
            Check.due("mergeCount", x.mergeCount(), 2);
            Check.due("firingCount", x.firingCount(), 5);
            Check.due("errorPosition", x.errorPosition(), 5);
        });
        Check.asked("bursts", Worked::some, x -> {
            Check.due("isLate", x.isLate(55), true);
            Check.due("burst", x.burst(2, 4), 3);
            Check.due("isClosed", x.isClosed(0), true);
            Check.due("isDirty", x.isDirty(2), true);
            Check.due("burstAt", x.burstAt(2, 1), 2);
            Check.due("joined", x.joined(2, 70), 2);
            Check.due("record", x.record(0, 1, false), 2);
            Check.due("closesAt", x.closesAt(2), 115);
            Check.due("nextClosing", x.nextClosing(), 3);
        });
        Check.asked("sums", Worked::some, x -> {
            Check.due("averageLength", x.averageLength(2), 10.0);
            Check.due("regrouped", x.regrouped(2), 2);
            Check.due("firing", x.firing(4, 2), 6);
            Check.due("firings", x.firings(0), 3);
            Check.due("balance", x.balance(), 2 + 3 + 2 - 3 + 6);
            Check.due("standing", x.standing(), 2 + 6);
        });
    }

    private static void vanishedBursts() {
        for (int vanished : new int[] {1, 4}) {
            Check.refused("burst", Worked::some, INDEX, x -> x.burst(vanished, 0));
            Check.refused("isClosed", Worked::some, INDEX, x -> x.isClosed(vanished));
            Check.refused("isDirty", Worked::some, INDEX, x -> x.isDirty(vanished));
            Check.refused("record", Worked::some, INDEX, x -> x.record(vanished, 0, true));
            Check.refused("closesAt", Worked::some, INDEX, x -> x.closesAt(vanished));
            Check.refused("fire", Worked::some, INDEX, x -> x.fire(vanished));
        }
        BurstGrouper x = new BurstGrouper();
        x.add(0, 100, 1);
        x.add(0, 120, 1);
        x.fire(1);
        x.add(0, 110, 1);
        Check.throwing("one that had fired", INDEX, () -> x.fire(1));
        Check.throwing("is not at its place", NO_ELEMENT, () -> x.burstAt(0, 1));
    }
}
