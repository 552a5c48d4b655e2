import java.util.NoSuchElementException;

/** Promises 32 to 34: append, read, errorPosition. */
public final class TextsTest {
    private static final Class<IllegalArgumentException> ARGUMENT = IllegalArgumentException.class;
    private static final Class<IllegalStateException> STATE = IllegalStateException.class;

    public static void main(String[] arguments) {
        append();
        read();
        numbers();
        wrongTexts();
        fullInput();
        manyEntries();
        entriesThatThrow();
        fullOfRecords();
        errorPositionStays();
        signsOfAnOlderText();
        Check.end();
    }

    private static void write(BurstGrouper x, String text) {
        for (int k = 0; k < text.length(); k++) {
            x.append(text.charAt(k));
        }
    }

    private static void append() {
        BurstGrouper x = new BurstGrouper();
        Check.due("32: space", x.append((char) 32), 1);
        Check.due("32: tilde", x.append((char) 126), 2);
        Check.refusing("32: 31", x, ARGUMENT, () -> x.append((char) 31));
        Check.refusing("32: 127", x, ARGUMENT, () -> x.append((char) 127));
        Check.refusing("32: 0", x, ARGUMENT, () -> x.append((char) 0));
        Check.refusing("32: 65535", x, ARGUMENT, () -> x.append((char) 65535));
        Check.due("32: the input stays", x.append('r'), 3);
    }

    private static void read() {
        BurstGrouper x = new BurstGrouper();
        write(x, "r3:10=5;w15;r3:14=9;r3:25=-2;w60;");
        Check.due("33: entries", x.read(), 5);
        Check.due("33: a late record is an entry too", x.lateCount(), 1);
        Check.due("33: records", x.recordCount(), 2);
        Check.due("33: watermark", x.watermark(), 60);
        Check.due("33: bursts", x.burstCount(), 2);
        Check.due("33: closed", x.openCount(), 0);
        Check.due("33: value", x.burst(0, 4), 5);
        Check.due("33: minus", x.burst(1, 4), -2);
        Check.due("33: key", x.burst(1, 0), 3);
        Check.due("33: the input is empty", x.append('w'), 1);
    }

    private static void numbers() {
        BurstGrouper x = new BurstGrouper();
        write(x, "r0:0007=007;r7:9999=-999;");
        Check.due("33: leading zeros", x.read(), 2);
        Check.due("33: time 7", x.burst(0, 1), 7);
        Check.due("33: value 7", x.burst(0, 4), 7);
        Check.due("33: time 9999", x.burst(1, 1), 9999);
        Check.due("33: value -999", x.burst(1, 4), -999);
        write(x, "r1:0=-0;r1:1=-00;w0;w0000;");
        Check.due("33: minus before 0", x.read(), 4);
        Check.due("33: 0", x.burst(2, 4), 0);
        write(x, "w9999;");
        Check.due("33: w9999", x.read(), 1);
        Check.due("33: watermark", x.watermark(), 9999);
    }

    private static void wrong(String text, int position) {
        BurstGrouper x = new BurstGrouper();
        x.add(0, 5, 5);
        write(x, text);
        Check.throwing("33: " + text, ARGUMENT, x::read);
        Check.due("34: " + text, x.errorPosition(), position);
        Check.due("33: the input is empty after " + text, x.append('w'), 1);
        Check.due("33: no record after " + text, x.recordCount(), 1);
        Check.due("33: no watermark after " + text, x.watermark(), 0);
    }

    private static void wrongTexts() {
        BurstGrouper x = new BurstGrouper();
        Check.refusing("34: none", x, NoSuchElementException.class, x::errorPosition);
        wrong("", 0);
        wrong("x", 0);
        wrong(" r0:1=1;", 0);
        wrong("r", 1);
        wrong("r8:1=1;", 1);
        wrong("r-", 1);
        wrong("r0", 2);
        wrong("r0=", 2);
        wrong("r00:1=1;", 2);
        wrong("r0:", 3);
        wrong("r0:=1;", 3);
        wrong("r0:-1=1;", 3);
        wrong("r0:1", 4);
        wrong("r0:1;", 4);
        wrong("r0:1234", 7);
        wrong("r0:12345=1;", 7);
        wrong("r0:1234=", 8);
        wrong("r0:1=;", 5);
        wrong("r0:1=+1;", 5);
        wrong("r0:1=-", 6);
        wrong("r0:1=-;", 6);
        wrong("r0:1=--1;", 6);
        wrong("r0:1=123", 8);
        wrong("r0:1=1234;", 8);
        wrong("r0:1=-1234;", 9);
        wrong("r0:1=1:", 6);
        wrong("w", 1);
        wrong("w;", 1);
        wrong("w-1;", 1);
        wrong("w1", 2);
        wrong("w12345;", 5);
        wrong("w1=", 2);
        wrong("w50;r0:60=1;x", 12);
        wrong("w50;r0:60=1; ", 12);
        wrong("w50;r0:60=1;w", 13);
        wrong("w50;r0:60=1;R1:1=1;", 12);
        wrong("w9;w8;w", 7);
    }

    private static void fullInput() {
        BurstGrouper x = new BurstGrouper();
        for (int k = 1; k <= 40; k++) {
            Check.due("32: length", x.append('w'), k);
        }
        Check.throwing("32: full", STATE, () -> x.append('w'));
        Check.throwing("32: full and out of range", ARGUMENT, () -> x.append((char) 127));
        Check.throwing("33: not a text", ARGUMENT, x::read);
        Check.due("34: second w", x.errorPosition(), 1);
        write(x, "r0:1=1;r0:1=1;r0:1=1;r0:1=1;r0:1=1;w1234");
        Check.throwing("33: not a text of 40 characters", ARGUMENT, x::read);
        Check.due("34: 40", x.errorPosition(), 40);
        write(x, "r0:1=1;r0:1=1;r0:1=1;r0:1=1;r0:1=1;w123;");
        Check.due("33: a text of 40 characters", x.read(), 6);
        Check.due("33: its records", x.recordCount(), 5);
        Check.due("33: its watermark", x.watermark(), 123);
    }

    private static void manyEntries() {
        BurstGrouper x = new BurstGrouper();
        write(x, "w0;w1;w2;w3;w4;w5;w6;w7;w8;w9;w9;w9;w10;");
        Check.due("33: 13 entries", x.read(), 13);
        Check.due("33: the last one", x.watermark(), 10);
        write(x, "w10;w10;w10;w11;w11;w11;w11;w12;w13;w15;");
        Check.due("33: 10 entries", x.read(), 10);
        write(x, "w1;w2;w3;w4;w5;w6;w7;w8;w9;w1;w2;w3;w4;w");
        Check.throwing("33: one more begins", ARGUMENT, x::read);
        Check.due("34: at its end", x.errorPosition(), 40);
    }

    private static void entriesThatThrow() {
        BurstGrouper x = new BurstGrouper();
        x.setTrigger(1);
        x.add(0, 10, 1);
        String before = Picture.of(x);
        write(x, "r0:11=5;w50;r1:60=1;w49;r1:70=1;");
        Check.throwing("33: the watermark goes back", STATE, x::read);
        Check.due("33: nothing changed", Picture.of(x), before);
        Check.due("33: the input is empty", x.append('w'), 1);
        write(x, "5;w5;r0:11=5;");
        Check.due("33: the same watermark is no step back", x.read(), 3);
        x.advance(15000);
        write(x, "w9999;");
        Check.throwing("33: below the watermark", STATE, x::read);
        Check.throwing("34: no error position from that", NoSuchElementException.class, x::errorPosition);
    }

    private static void fullOfRecords() {
        BurstGrouper x = new BurstGrouper();
        for (int k = 0; k < 98; k++) {
            x.add(k % 8, 100 + k, k);
        }
        String before = Picture.of(x);
        write(x, "r0:1=1;r1:2=3;r2:4=5;");
        Check.throwing("33: the 101st record", STATE, x::read);
        Check.due("33: nothing changed", Picture.of(x), before);
        write(x, "w300;r1:2=3;r2:4=5;r2:500=1;r2:500=1;");
        Check.due("33: late ones need no room", x.read(), 5);
        Check.due("33: 100 records", x.recordCount(), 100);
        Check.due("33: two late", x.lateCount(), 2);
        x.setLateness(1);
        before = Picture.of(x);
        write(x, "r0:298=1;r0:299=1;");
        Check.throwing("33: just not late", STATE, x::read);
        Check.due("33: the late one is not counted then", Picture.of(x), before);
        write(x, "r0:299=1;w900;");
        Check.throwing("33: not late yet", STATE, x::read);
        write(x, "w900;r0:299=1;");
        Check.due("33: late behind the watermark", x.read(), 2);
        Check.due("33: counted", x.lateCount(), 3);
    }

    private static void signsOfAnOlderText() {
        BurstGrouper x = new BurstGrouper();
        String older = "r0:1234=-123;";
        for (int length = 1; length < older.length(); length++) {
            write(x, older);
            Check.due("33: a text", x.read(), 1);
            write(x, older.substring(0, length));
            Check.throwing("33: its beginning", ARGUMENT, x::read);
            Check.due("34: at its end", x.errorPosition(), length);
        }
    }

    private static void errorPositionStays() {
        BurstGrouper x = new BurstGrouper();
        write(x, "w1x");
        Check.throwing("33: wrong", ARGUMENT, x::read);
        write(x, "w100;");
        Check.due("33: right", x.read(), 1);
        Check.due("34: stays", x.errorPosition(), 2);
        write(x, "w99;");
        Check.throwing("33: throws", STATE, x::read);
        Check.due("34: stays again", x.errorPosition(), 2);
        Check.throwing("33: empty", ARGUMENT, x::read);
        Check.due("34: the last one", x.errorPosition(), 0);
    }
}
