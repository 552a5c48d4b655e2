import java.util.NoSuchElementException;

/** The boundary cases of promises 32 to 36: append, read, errorPosition, save, restore. */
final class InputEdges {
    private static final Class<IllegalArgumentException> ARGUMENT = IllegalArgumentException.class;
    private static final Class<IllegalStateException> STATE = IllegalStateException.class;
    private static final Class<NoSuchElementException> NO_ELEMENT = NoSuchElementException.class;

    private InputEdges() {
    }

    static void all(Sentences s) {
        s.test("32: Appends a character", InputEdges::appendsBehindTheOthers);
        s.test("32: `character`", InputEdges::charactersThatAreTaken);
        s.test("32: Returns the new length", InputEdges::newLengths);
        s.test("32: Throws `IllegalArgumentException`", InputEdges::charactersThatAreRefused);
        s.test("32: Throws `IllegalStateException`", InputEdges::fullInput);
        s.test("33: Carries out the entries", InputEdges::oneAfterTheOther);
        s.test("33: If one of them would throw an exception", InputEdges::lastEntryThrows);
        s.test("33: If one of them would throw an exception", InputEdges::lastEntryHasNoRoom);
        s.test("33: The input is empty afterwards", InputEdges::emptyWhateverHappens);
        s.test("33: Returns the number of entries", InputEdges::oneToThirteen);
        s.test("33: Throws `IllegalArgumentException`", InputEdges::noText);
        s.test("33: Throws `IllegalStateException`", InputEdges::watermarkThatGoesBack);
        s.test("33: Throws `IllegalStateException`", InputEdges::noRoom);
        s.test("34: Returns the error position that was kept last", InputEdges::lastErrorPosition);
        s.test("34: Throws `NoSuchElementException`", InputEdges::noErrorPosition);
        s.test("35: Saves everything except the input", InputEdges::savedBesideTheInput);
        s.test("35: Saves everything except the input", InputEdges::savedBeforeIsReplaced);
        s.test("35: Returns the number of records", InputEdges::saveReturns);
        s.test("36: Restores what was saved", InputEdges::restoredWhole);
        s.test("36: It stays saved", InputEdges::staysSaved);
        s.test("36: Returns the number of records", InputEdges::restoreReturns);
        s.test("36: Throws `IllegalStateException`", InputEdges::nothingSaved);
    }

    private static void appendsBehindTheOthers() {
        BurstGrouper x = new BurstGrouper();
        for (char character : new char[] {'w', '1', '2', ';'}) {
            x.append(character);
        }
        Check.due("read in that order", x.read(), 1);
        Check.due("12, not 21", x.watermark(), 12);
    }

    private static void charactersThatAreTaken() {
        for (int code = 32; code <= 126; code++) {
            BurstGrouper x = new BurstGrouper();
            Check.due("code " + code, x.append((char) code), 1);
        }
    }

    private static void newLengths() {
        BurstGrouper x = new BurstGrouper();
        for (int length = 1; length <= 40; length++) {
            Check.due("length", x.append(';'), length);
        }
        Check.throwing("reading", ARGUMENT, x::read);
        Check.due("from the start again", x.append(';'), 1);
    }

    private static void charactersThatAreRefused() {
        for (int code : new int[] {0, 9, 10, 31, 127, 128, 255, 256 + 'w', 65535}) {
            Check.refused("code " + code, Worked::some, ARGUMENT, x -> x.append((char) code));
        }
    }

    private static void fullInput() {
        Check.refused("the last code", Worked::fullOfInput, STATE, x -> x.append('~'));
        Check.refused("the first code", Worked::fullOfInput, STATE, x -> x.append(' '));
        BurstGrouper x = new BurstGrouper();
        Worked.write(x, "w1;w2;w3;w4;w5;w6;w7;w8;w9;w10;w11;w123");
        Check.due("39 and one more", x.append(';'), 40);
        Check.throwing("full", STATE, () -> x.append(';'));
        Check.due("what it holds stays right", x.read(), 12);
        Check.due("to the last", x.watermark(), 123);
        Check.due("room again", x.append(';'), 1);
    }

    private static void oneAfterTheOther() {
        BurstGrouper x = new BurstGrouper();
        Worked.write(x, "r0:5=1;w16;r0:5=2;r0:16=3;w27;");
        Check.due("entries", x.read(), 5);
        Check.due("the first one before the watermark", x.burst(0, 4), 1);
        Check.due("closed by it", x.firing(0, 1), 0);
        Check.due("the third one late by it", x.lateCount(), 1);
        Check.due("the fourth one in time", x.burst(1, 4), 3);
        Check.due("closed by the last one", x.firing(1, 1), 1);
    }

    private static void lastEntryThrows() {
        BurstGrouper x = new BurstGrouper();
        x.setTrigger(1);
        x.add(0, 10, 1);
        String before = Picture.of(x);
        Worked.write(x, "r0:11=1;r1:11=1;w50;r1:1=1;w49;");
        Check.throwing("the last of five", STATE, x::read);
        Check.due("nothing changed", Picture.of(x), before);
    }

    private static void lastEntryHasNoRoom() {
        BurstGrouper x = new BurstGrouper();
        for (int k = 0; k < 98; k++) {
            x.add(0, 10, 1);
        }
        x.advance(5);
        String before = Picture.of(x);
        Worked.write(x, "r0:4=1;r0:10=1;r1:10=1;r2:10=1;");
        Check.throwing("the 101st", STATE, x::read);
        Check.due("nothing changed", Picture.of(x), before);
        Worked.write(x, "r0:4=1;r0:10=1;r1:10=1;r2:4=1;");
        Check.due("up to the hundredth", x.read(), 4);
        Check.due("records", x.recordCount(), 100);
        Check.due("late", x.lateCount(), 2);
    }

    private static void emptyWhateverHappens() {
        BurstGrouper x = new BurstGrouper();
        Worked.write(x, "w5;");
        Check.due("right", x.read(), 1);
        Check.due("empty", x.append('x'), 1);
        Check.throwing("no text", ARGUMENT, x::read);
        Check.due("empty after that", x.append('w'), 1);
        Worked.write(x, "4;");
        Check.throwing("an entry throws", STATE, x::read);
        Check.due("empty after that too", x.append('w'), 1);
        Worked.write(x, "6;");
        x.read();
        Check.throwing("empty already", ARGUMENT, x::read);
        Check.due("empty still", x.append('w'), 1);
    }

    private static void oneToThirteen() {
        StringBuilder text = new StringBuilder();
        for (int entries = 1; entries <= 13; entries++) {
            text.append("w1;");
            BurstGrouper x = new BurstGrouper();
            Worked.write(x, text.toString());
            Check.due("entries", x.read(), entries);
        }
    }

    private static void noText() {
        BurstGrouper x = Worked.some();
        String before = Picture.of(x);
        Worked.write(x, ";w60;r1:60=1;!");
        Check.throwing("wrong behind three entries", ARGUMENT, x::read);
        Check.due("the error position", x.errorPosition(), 21);
        Check.due("nothing else changed", Picture.of(x),
                before.replace("errorPosition: 5\n", "errorPosition: 21\n"));
        Check.throwing("empty", ARGUMENT, x::read);
        Check.due("the error position of that", x.errorPosition(), 0);
    }

    private static void watermarkThatGoesBack() {
        BurstGrouper x = new BurstGrouper();
        x.advance(9999);
        Worked.write(x, "w9998;");
        Check.throwing("one less", STATE, x::read);
        Worked.write(x, "w9999;");
        Check.due("the same", x.read(), 1);
        x.advance(10000);
        Worked.write(x, "w9999;");
        Check.throwing("the greatest of a text", STATE, x::read);
        BurstGrouper y = new BurstGrouper();
        Worked.write(y, "w1;w0;");
        Check.throwing("one less than the entry before", STATE, y::read);
        Check.due("nothing changed", y.watermark(), 0);
    }

    private static void noRoom() {
        BurstGrouper x = Worked.fullOfRecords();
        Worked.write(x, ";");
        Check.throwing("the 101st", STATE, x::read);
        Worked.write(x, "r0:56=1;");
        Check.throwing("just not late", STATE, x::read);
        Worked.write(x, "r0:55=1;");
        Check.due("just late", x.read(), 1);
        Worked.write(x, "r0:56=1;w61;");
        Check.throwing("late too late", STATE, x::read);
        Worked.write(x, "w61;r0:56=1;");
        Check.due("late in time", x.read(), 2);
        Check.due("late ones", x.lateCount(), 3);
    }

    private static void lastErrorPosition() {
        BurstGrouper x = new BurstGrouper();
        String[] texts = {"w1;w1;w1;w1;w1;w1;w1;w1;w1;w1;w1;w1;w123", "w", "",
            "w1;w1;w1;w1;w1;w1;w1;w1;w1;w1;w1;w1;w12~", "w1;~"};
        int[] due = {40, 1, 0, 39, 3};
        for (int k = 0; k < texts.length; k++) {
            Worked.write(x, texts[k]);
            Check.throwing("reading " + texts[k], ARGUMENT, x::read);
            Check.due("the last one", x.errorPosition(), due[k]);
            Check.due("told twice", x.errorPosition(), due[k]);
        }
    }

    private static void noErrorPosition() {
        Check.refused("at first", BurstGrouper::new, NO_ELEMENT, x -> x.errorPosition());
        BurstGrouper x = new BurstGrouper();
        Worked.write(x, "w5;");
        x.read();
        Check.throwing("after a right text", NO_ELEMENT, x::errorPosition);
        Worked.write(x, "w4;");
        Check.throwing("an entry throws", STATE, x::read);
        Check.throwing("after that", NO_ELEMENT, x::errorPosition);
        Worked.write(x, "w4");
        Check.throwing("before it is read", NO_ELEMENT, x::errorPosition);
        x.save();
        x.restore();
        x.reset();
        Check.throwing("after all else", NO_ELEMENT, x::errorPosition);
    }

    private static void savedBesideTheInput() {
        BurstGrouper x = Worked.unsaved();
        Check.due("saved with w30 waiting", x.save(), 3);
        Check.due("the input stays", x.append(';'), 4);
        Check.due("and is read", x.read(), 1);
        Worked.write(x, "w4");
        Check.throwing("no text", ARGUMENT, x::read);
        Worked.write(x, "w2");
        x.restore();
        Check.due("the watermark comes back", x.watermark(), 23);
        Check.due("the error position stays", x.errorPosition(), 2);
        Check.due("the input stays", x.append('5'), 3);
        x.append(';');
        Check.due("and is read", x.read(), 1);
        Check.due("25", x.watermark(), 25);
    }

    private static void savedBeforeIsReplaced() {
        BurstGrouper x = Worked.some();
        Check.due("saved", x.save(), 5);
        String second = Picture.of(x);
        x.reset();
        x.restore();
        Check.due("not what was saved first", Picture.of(x), second);
        x.reset();
        Check.due("nothing but a new state", x.save(), 0);
        x.add(0, 1, 1);
        Check.due("that one", x.restore(), 0);
        Check.due("no burst", x.burstCount(), 0);
    }

    private static void saveReturns() {
        Check.due("none", new BurstGrouper().save(), 0);
        Check.due("some", Worked.some().save(), 5);
        Check.due("a hundred", Worked.fullOfRecords().save(), 100);
    }

    private static void restoredWhole() {
        BurstGrouper x = Worked.fullOfRecords();
        x.setTrigger(1);
        for (int k = 0; k < 70; k++) {
            x.setFold(4, k % 2);
            x.fire(5);
        }
        x.advance(100);
        x.save();
        String before = Picture.of(x);
        writeOver(x);
        Check.due("full of records and of firings", x.restore(), 100);
        Check.due("as it was", Picture.of(x), before);
        Check.throwing("full again", STATE, () -> x.add(0, 9999, 1));
        BurstGrouper y = Worked.some();
        y.save();
        before = Picture.of(y);
        writeOver(y);
        Check.due("a few records and firings", y.restore(), 5);
        Check.due("as it was, too", Picture.of(y), before);
        Check.due("one that had not fired has nothing to take back", y.fire(2), 1);
        y.reset();
        y.add(1, 5, 5);
        y.restore();
        Check.due("over a burst that has not fired", Picture.of(y), before);
    }

    /** Puts something else into every place for records, bursts, firings, settings and counts. */
    private static void writeOver(BurstGrouper x) {
        x.reset();
        x.setTrigger(1);
        x.setLateness(7);
        for (int key = 0; key < 8; key++) {
            x.setGap(key, 3);
            x.setFold(key, 3 - key % 3);
        }
        for (int k = 0; k < 100; k++) {
            x.add(7 - k % 2, 9999 - 2 * k, 1000 + k);
        }
        x.advance(20000);
        x.add(0, 0, 0);
        Check.due("all of it other", x.recordCount(), 100);
    }

    private static void staysSaved() {
        BurstGrouper x = Worked.some();
        x.save();
        String before = Picture.of(x);
        for (int round = 0; round < 3; round++) {
            x.add(2, 95, 9);
            x.setGap(2, 1);
            x.advance(9000 + round);
            x.restore();
            Check.due("round " + round, Picture.of(x), before);
        }
        x.restore();
        x.reset();
        Check.due("behind reset", x.restore(), 5);
        Check.due("all of it", Picture.of(x), before);
    }

    private static void restoreReturns() {
        BurstGrouper x = new BurstGrouper();
        x.save();
        x.add(0, 1, 1);
        Check.due("none", x.restore(), 0);
        BurstGrouper y = Worked.fullOfRecords();
        Check.due("what was saved, not what is kept", y.restore(), 4);
        BurstGrouper z = Worked.fullOfRecords();
        z.save();
        z.reset();
        Check.due("a hundred", z.restore(), 100);
    }

    private static void nothingSaved() {
        Check.refused("at first", BurstGrouper::new, STATE, x -> x.restore());
        Check.refused("with records", Worked::unsaved, STATE, x -> x.restore());
        BurstGrouper x = Worked.unsaved();
        x.reset();
        Check.throwing("after reset", STATE, x::restore);
        x.save();
        Check.due("after save", x.restore(), 0);
    }
}
