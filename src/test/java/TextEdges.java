/** The boundary cases of the description's part "Text". */
final class TextEdges {
    private static final Class<IllegalArgumentException> ARGUMENT = IllegalArgumentException.class;
    private static final Class<IllegalStateException> STATE = IllegalStateException.class;

    private TextEdges() {
    }

    static void all(Sentences s) {
        s.test("Text: The input is a buffer of at most 40 characters", TextEdges::fortyCharacters);
        s.test("Text: The input is a buffer of at most 40 characters", TextEdges::textsOfFortyCharacters);
        s.test("Text: A text consists of one or several entries", TextEdges::oneAndSeveral);
        s.test("Text: A text consists of one or several entries", TextEdges::nothingBetween);
        s.test("Text: A text consists of one or several entries", TextEdges::keys);
        s.test("Text: A text consists of one or several entries", TextEdges::digitsOfTimes);
        s.test("Text: A text consists of one or several entries", TextEdges::digitsOfValues);
        s.test("Text: A text consists of one or several entries", TextEdges::minusSigns);
        s.test("Text: A text consists of one or several entries", TextEdges::digitsOfWatermarks);
        s.test("Text: A text consists of one or several entries", TextEdges::charactersBesideTheDigits);
        s.test("Text: A text consists of one or several entries", TextEdges::lettersAndSigns);
        s.test("Text: The error position of a text", TextEdges::beginningsOfTexts);
        s.test("Text: The error position of a text", TextEdges::eachPlaceOfAnEntry);
        s.test("Text: The error position of a text", TextEdges::behindOtherEntries);
        s.test("Text: The error position of a text", TextEdges::atTheEndOfTheInput);
    }

    private static void right(String text, int entries) {
        BurstGrouper x = new BurstGrouper();
        Worked.write(x, text);
        Check.due("entries of " + text, x.read(), entries);
    }

    private static void wrong(String text, int position) {
        BurstGrouper x = new BurstGrouper();
        Worked.write(x, text);
        Check.throwing("reading " + text, ARGUMENT, x::read);
        Check.due("the error position of " + text, x.errorPosition(), position);
    }

    private static void fortyCharacters() {
        BurstGrouper x = new BurstGrouper();
        for (int length = 1; length <= 40; length++) {
            Check.due("length", x.append('0'), length);
        }
        Check.throwing("one more", STATE, () -> x.append('0'));
        Check.throwing("and once more", STATE, () -> x.append('0'));
        Check.refused("one more", Worked::fullOfInput, STATE, y -> y.append(';'));
    }

    private static void textsOfFortyCharacters() {
        right("w1;w2;w3;w4;w5;w6;w7;w8;w9;w10;w11;w123;", 12);
        right("r0:1234=-123;r0:1234=-123;r0:1234=-123;", 3);
        right("r0:1=1;r0:2=2;r0:3=3;r0:4=4;r0:5=5;w123;", 6);
        right("w0;w0;w0;w0;w0;w0;w0;w0;w0;w0;w0;w0;w00;", 13);
    }

    private static void oneAndSeveral() {
        wrong("", 0);
        right("w0;", 1);
        right("r0:0=0;", 1);
        right("w0;r0:0=0;", 2);
        right("r0:0=0;w0;", 2);
        right("w0;w0;", 2);
        right("r0:0=0;r0:0=0;", 2);
    }

    private static void nothingBetween() {
        wrong(" w0;", 0);
        wrong("w0; w0;", 3);
        wrong("w0;;", 3);
        wrong("w0; ", 3);
        wrong("w0;,w0;", 3);
        wrong("r0:0=0;0", 7);
    }

    private static void keys() {
        BurstGrouper x = new BurstGrouper();
        Worked.write(x, "r0:5=1;r7:5=1;");
        Check.due("the least and the greatest", x.read(), 2);
        Check.due("0", x.burst(0, 0), 0);
        Check.due("7", x.burst(1, 0), 7);
        wrong("r8:5=1;", 1);
        wrong("r9:5=1;", 1);
        wrong("r:5=1;", 1);
        wrong("r-1:5=1;", 1);
        wrong("r07:5=1;", 2);
    }

    private static void digitsOfTimes() {
        BurstGrouper x = new BurstGrouper();
        Worked.write(x, "r0:0=1;r1:9999=1;r2:10=1;r3:100=1;");
        Check.due("one to four digits", x.read(), 4);
        int[] due = {0, 9999, 10, 100};
        for (int k = 0; k < due.length; k++) {
            Check.due("time", x.burst(k, 1), due[k]);
        }
        wrong("r0:=1;", 3);
        wrong("r0:10000=1;", 7);
        wrong("r0:00001=1;", 7);
    }

    private static void digitsOfValues() {
        BurstGrouper x = new BurstGrouper();
        Worked.write(x, "r0:5=0;r1:5=99;r2:5=999;r3:5=-999;");
        Check.due("one to three digits", x.read(), 4);
        int[] due = {0, 99, 999, -999};
        for (int k = 0; k < due.length; k++) {
            Check.due("value", x.burst(k, 4), due[k]);
        }
        wrong("r0:5=;", 5);
        wrong("r0:5=1000;", 8);
        wrong("r0:5=0001;", 8);
        wrong("r0:5=-1000;", 9);
    }

    private static void minusSigns() {
        right("r0:5=-1;", 1);
        wrong("r0:5=-;", 6);
        wrong("r0:5=--1;", 6);
        wrong("r0:5=1-;", 6);
        wrong("r0:5=+1;", 5);
        wrong("r0:-5=1;", 3);
        wrong("w-5;", 1);
    }

    private static void digitsOfWatermarks() {
        BurstGrouper x = new BurstGrouper();
        Worked.write(x, "w0;w10;w100;w9999;");
        Check.due("one to four digits", x.read(), 4);
        Check.due("watermark", x.watermark(), 9999);
        wrong("w;", 1);
        wrong("w10000;", 5);
        wrong("w00000;", 5);
    }

    private static void charactersBesideTheDigits() {
        right("r0:09=09;w09;", 2);
        wrong("r/:5=1;", 1);
        wrong("r0:/=1;", 3);
        wrong("r0::=1;", 3);
        wrong("r0:5=/;", 5);
        wrong("r0:5=:;", 5);
        wrong("w/;", 1);
        wrong("w:;", 1);
        wrong("w5/;", 2);
        wrong("w5:;", 2);
    }

    private static void lettersAndSigns() {
        wrong("R0:5=1;", 0);
        wrong("W5;", 0);
        wrong("q0:5=1;", 0);
        wrong("s0:5=1;", 0);
        wrong("v5;", 0);
        wrong("x5;", 0);
        wrong("r0;5=1;", 2);
        wrong("r0=5=1;", 2);
        wrong("r0:5:1;", 4);
        wrong("r0:5-1;", 4);
        wrong("r0:5=1:", 6);
        wrong("w5:", 2);
    }

    private static void beginningsOfTexts() {
        String text = "r0:1234=-123;w1234;r1:5=6;";
        for (int length = 0; length < text.length(); length++) {
            String beginning = text.substring(0, length);
            if (length == 13 || length == 19) {
                right(beginning, length == 13 ? 1 : 2);
            } else {
                wrong(beginning, length);
            }
        }
        right(text, 3);
    }

    private static void eachPlaceOfAnEntry() {
        for (String text : new String[] {"r7:1234=-123;", "w9876;"}) {
            for (int k = 0; k < text.length(); k++) {
                wrong(text.substring(0, k) + "~" + text.substring(k + 1), k);
                wrong(text.substring(0, k) + "~", k);
            }
        }
    }

    private static void behindOtherEntries() {
        wrong("w5;w", 4);
        wrong("w5;w;", 4);
        wrong("w5;x;", 3);
        wrong("w5;w4;w3;~", 9);
        wrong("r0:1=1;r8:1=1;", 8);
        wrong("r0:1=1;w12345;", 12);
        wrong("x;w5;", 0);
    }

    private static void atTheEndOfTheInput() {
        String five = "r0:1=1;r0:1=1;r0:1=1;r0:1=1;r0:1=1;";
        wrong(five + "w1234", 40);
        wrong(five + "r0:1=", 40);
        wrong(five + "w123~", 39);
        wrong("w1;w2;w3;w4;w5;w6;w7;w8;w9;w9;w9;w9;w9;w", 40);
        wrong("w1;w2;w3;w4;w5;w6;w7;w8;w9;w9;w9;w9;w9;~", 39);
        wrong("wwwwwwwwwwwwwwwwwwwwwwwwwwwwwwwwwwwwwwww", 1);
    }
}
