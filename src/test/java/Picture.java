/**
 * All that an object answers, in one text. Settings are seen by setting them and setting them back. It takes more
 * calls than the 512 that are promised, which the program bears.
 */
final class Picture {
    private static final int[] TIMES = {0, 5, 10, 20, 30, 40, 50, 75, 100, 150, 9999};

    private Picture() {
    }

    static String of(Object x) {
        StringBuilder all = new StringBuilder();
        for (String name : new String[] {"watermark", "lateCount", "recordCount", "burstCount", "openCount",
                "nextClosing", "mergeCount", "firingCount", "balance", "standing", "errorPosition"}) {
            put(all, x, name);
        }
        for (int kind = 0; kind < 3; kind++) {
            put(all, x, "firings", kind);
        }
        putSettings(all, x);
        for (int key = 0; key < 8; key++) {
            putKey(all, x, key);
        }
        for (int burst = 0; burst < 100; burst++) {
            if (!Faces.answer(x, "isClosed", burst).startsWith("java.")) {
                putBurst(all, x, burst);
            }
        }
        int logged = Integer.parseInt(Faces.answer(x, "firingCount"));
        for (int index = 0; index < logged; index++) {
            for (int what = 0; what < 6; what++) {
                put(all, x, "firing", index, what);
            }
        }
        return all.toString();
    }

    /**
     * Also the input and what was saved, which are seen only by using them: the object is not as it was afterwards.
     * The input is ended and read, so that an entry that waits in it shows in what follows.
     */
    static String whole(Object x) {
        StringBuilder all = new StringBuilder(of(x));
        put(all, x, "append", ';');
        put(all, x, "read");
        all.append(of(x));
        put(all, x, "restore");
        all.append(of(x));
        return all.toString();
    }

    private static void putSettings(StringBuilder all, Object x) {
        putSetting(all, x, "setLateness");
        putSetting(all, x, "setTrigger");
        for (int key = 0; key < 8; key++) {
            String gap = Faces.answer(x, "setGap", key, 1);
            Faces.answer(x, "setGap", key, Integer.parseInt(gap));
            String way = Faces.answer(x, "setFold", key, 0);
            Faces.answer(x, "setFold", key, Integer.parseInt(way));
            all.append("gap ").append(gap).append(" way ").append(way).append('\n');
        }
    }

    private static void putSetting(StringBuilder all, Object x, String name) {
        String setting = Faces.answer(x, name, 0);
        Faces.answer(x, name, Integer.parseInt(setting));
        all.append(name).append(' ').append(setting).append('\n');
    }

    private static void putKey(StringBuilder all, Object x, int key) {
        put(all, x, "averageLength", key);
        put(all, x, "regrouped", key);
        for (int time : TIMES) {
            put(all, x, "joined", key, time);
        }
        String burst = "";
        for (int index = 0; index < 100 && !burst.startsWith("java."); index++) {
            burst = Faces.answer(x, "burstAt", key, index);
            all.append("burstAt ").append(key).append(' ').append(index).append(' ').append(burst).append('\n');
        }
    }

    private static void putBurst(StringBuilder all, Object x, int burst) {
        for (int what = 0; what < 6; what++) {
            put(all, x, "burst", burst, what);
        }
        put(all, x, "isClosed", burst);
        put(all, x, "isDirty", burst);
        put(all, x, "closesAt", burst);
        int records = Integer.parseInt(Faces.answer(x, "burst", burst, 3));
        for (int index = 0; index <= records; index++) {
            put(all, x, "record", burst, index, true);
            put(all, x, "record", burst, index, false);
        }
    }

    private static void put(StringBuilder all, Object x, String name, Object... arguments) {
        all.append(name);
        for (Object argument : arguments) {
            all.append(' ').append(argument);
        }
        all.append(": ").append(Faces.answer(x, name, arguments)).append('\n');
    }
}
