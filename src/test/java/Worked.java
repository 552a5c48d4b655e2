/** Objects in which there is something of everything, for tests that look at the whole state. */
final class Worked {
    private Worked() {
    }

    static void write(BurstGrouper x, String text) {
        for (int k = 0; k < text.length(); k++) {
            x.append(text.charAt(k));
        }
    }

    /** Burst 0 is closed, 1 vanished, 2 is open, 3 is open and has fired, 4 vanished; an entry without its end waits. */
    static BurstGrouper some() {
        BurstGrouper x = new BurstGrouper();
        write(x, "r0:1=x");
        Check.throwing("a wrong text", IllegalArgumentException.class, x::read);
        x.setGap(2, 20);
        x.setFold(2, 1);
        x.setLateness(4);
        x.setTrigger(2);
        x.add(2, 10, 1);
        x.add(2, 30, 2);
        x.add(2, 90, 3);
        x.add(0, 90, 3);
        x.fire(3);
        x.save();
        x.advance(60);
        x.add(2, 5, 1);
        x.add(0, 92, 3);
        write(x, "r3:77=-5");
        return x;
    }

    static BurstGrouper fullOfRecords() {
        BurstGrouper x = some();
        for (int k = x.recordCount(); k < 100; k++) {
            x.add(4, 200 + k, k);
        }
        return x;
    }

    static BurstGrouper fullOfInput() {
        BurstGrouper x = some();
        write(x, ";r0:95=1;w90;r1:120=2;w95;w1234;");
        return x;
    }

    /** Something of everything, but nothing was saved, and no error position was kept. */
    static BurstGrouper unsaved() {
        BurstGrouper x = new BurstGrouper();
        x.setTrigger(1);
        x.add(0, 10, 1);
        x.add(0, 12, 1);
        x.add(1, 12, 1);
        x.advance(23);
        write(x, "w30");
        return x;
    }
}
