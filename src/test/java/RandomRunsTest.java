/** Long runs of calls by a fixed series of numbers: BurstGrouper and PlainGrouper answer the same. */
public final class RandomRunsTest {
    private static final int RUNS = 1500;
    private static final int CALLS = 512;
    private static final String[] QUESTIONS = {"watermark", "lateCount", "recordCount", "burstCount", "openCount",
            "nextClosing", "mergeCount", "firingCount", "balance", "standing", "errorPosition"};
    private static final String[] TEXTS = {"r0:5=3;", "r1:0012=-07;w30;", "w1;w2;w9999;",
            "r0:1=1;r0:1=2;r0:1=3;r0:1=4;r0:1=5;", "w;", "r8:1=1;", "r0:12345=1;", "r0:1=-;", "r0:1=1234;", "", "x",
            "r0:40=0;r0:60=-0;r0:50=-999;", "w40;r0:10=1;w5;", "r1:100=5;w20", "r0:1=1; ", "w12345;",
            "r7:9999=999;", "r0:=1;", "r0;", "w60;r2:30=7;w90;r2:95=3;", "w0;w0;w0;w0;w0;w0;w0;w0;w0;w0;w0;w0;w0;",
            "w0;w0;w0;w0;w0;w0;w0;w0;w0;w0;w0;w0;w0;w"};

    private static long seed;

    public static void main(String[] arguments) {
        for (int run = 0; run < RUNS; run++) {
            seed = run * 7919L + 17;
            if (!sameRun(run)) {
                break;
            }
        }
        Check.end();
    }

    private static int below(int bound) {
        seed = seed * 6364136223846793005L + 1442695040888963407L;
        return (int) Math.floorMod(seed >>> 33, (long) bound);
    }

    private static boolean sameRun(int run) {
        BurstGrouper x = new BurstGrouper();
        PlainGrouper y = new PlainGrouper();
        // Some runs keep to a few times and keys, so that bursts meet often; others spread out.
        int span = new int[] {60, 300, 1500, 9999}[below(4)];
        int keys = 1 + below(8);
        // Some runs seldom reset, restore or advance, so that 100 records and 60 firings are reached.
        int calm = below(3);
        for (int call = 0; call < CALLS; call++) {
            if (!sameCall(x, y, span, keys, calm, "run " + run + " call " + call)) {
                return false;
            }
        }
        String want = Picture.of(y);
        Check.due("the picture after run " + run, Picture.of(x), want);
        return Picture.of(x).equals(want);
    }

    private static boolean same(BurstGrouper x, PlainGrouper y, String where, String name, Object... arguments) {
        String got = Faces.answer(x, name, arguments);
        String want = Faces.answer(y, name, arguments);
        Check.due(where + " " + name + java.util.Arrays.toString(arguments), got, want);
        return got.equals(want);
    }

    private static int oddly(int usual) {
        switch (below(40)) {
            case 0:
                return -1;
            case 1:
                return Integer.MIN_VALUE;
            case 2:
                return Integer.MAX_VALUE;
            case 3:
                return 20001;
            default:
                return usual;
        }
    }

    private static int value() {
        switch (below(30)) {
            case 0:
                return Integer.MIN_VALUE;
            case 1:
                return Integer.MAX_VALUE;
            default:
                return below(11) - 5;
        }
    }

    private static boolean sameCall(BurstGrouper x, PlainGrouper y, int span, int keys, int calm, String w) {
        int key = oddly(below(keys + below(2)));
        int time = oddly(Math.min(9999 + below(2), Math.max(0, y.watermark() - 10) + below(span)));
        int burst = oddly(below(Math.max(1, y.recordCount() + 1)));
        int what = oddly(below(7));
        int index = oddly(below(8));
        switch (below(34 + 30 * calm)) {
            case 0:
                return same(x, y, w, "setGap", key, oddly(below(4) == 0 ? 1 + below(50) : 1 + below(15)));
            case 1:
                return same(x, y, w, "setFold", key, oddly(below(5)));
            case 2:
                return same(x, y, w, "setLateness", oddly(below(4) == 0 ? below(102) : below(12)));
            case 3:
                return same(x, y, w, "setTrigger", oddly(below(3) == 0 ? below(12) : below(4)));
            case 4:
                return below(12) != 0 || same(x, y, w, "reset");
            case 5:
                return same(x, y, w, "advance", oddly(y.watermark() - 1 + below(Math.max(2, span / 8))));
            case 6:
                return below(40) != 0 || same(x, y, w, "advance", 19999 + below(3));
            case 7:
                return same(x, y, w, "isLate", time);
            case 8:
            case 9:
                return same(x, y, w, "burst", burst, what);
            case 10:
                return same(x, y, w, "isClosed", burst) && same(x, y, w, "isDirty", burst);
            case 11:
                return same(x, y, w, "burstAt", key, index);
            case 12:
                return same(x, y, w, "joined", key, time);
            case 13:
                return same(x, y, w, "record", burst, index, below(2) == 0);
            case 14:
                return same(x, y, w, "closesAt", burst);
            case 15:
                return same(x, y, w, "averageLength", key);
            case 16:
                return same(x, y, w, "regrouped", key);
            case 17:
            case 18:
            case 19:
                return same(x, y, w, "fire", burst);
            case 20:
                return same(x, y, w, "firing", oddly(below(Math.max(1, y.firingCount() + 1))), what);
            case 21:
                return same(x, y, w, "firings", oddly(below(4)));
            case 22:
            case 23:
                return sameText(x, y, w);
            case 24:
                return below(3) != 0 || same(x, y, w, "save");
            case 25:
                return below(6) != 0 || same(x, y, w, "restore");
            case 26:
            case 27:
                return same(x, y, w, QUESTIONS[below(QUESTIONS.length)]);
            default:
                return same(x, y, w, "add", key, time, value());
        }
    }

    private static boolean sameText(BurstGrouper x, PlainGrouper y, String where) {
        StringBuilder text = new StringBuilder(TEXTS[below(TEXTS.length)]);
        if (below(3) == 0) {
            text.append(TEXTS[below(TEXTS.length)]);
        }
        if (below(3) == 0 && text.length() > 0) {
            text.setCharAt(below(text.length()), "r0:=-;w5 8".charAt(below(10)));
        }
        for (int k = 0; k < text.length(); k++) {
            if (!same(x, y, where, "append", text.charAt(k))) {
                return false;
            }
        }
        return same(x, y, where, "read") && same(x, y, where, "errorPosition");
    }
}
