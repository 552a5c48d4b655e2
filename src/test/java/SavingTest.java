/** Promises 35 and 36: save, restore. */
public final class SavingTest {
    public static void main(String[] arguments) {
        nothingSaved();
        everything();
        notSaved();
        savedTwice();
        fullLog();
        Check.end();
    }

    private static void nothingSaved() {
        BurstGrouper x = new BurstGrouper();
        x.add(0, 1, 1);
        Check.refusing("36: nothing was saved", x, IllegalStateException.class, x::restore);
        x.reset();
        Check.throwing("36: nor by reset", IllegalStateException.class, x::restore);
        Check.due("35: no record", x.save(), 0);
        x.add(0, 1, 1);
        Check.due("36: none is restored", x.restore(), 0);
        Check.due("36: no burst", x.burstCount(), 0);
    }

    private static BurstGrouper worked() {
        BurstGrouper x = new BurstGrouper();
        x.setGap(2, 20);
        x.setFold(2, 1);
        x.setLateness(4);
        x.setTrigger(2);
        x.add(2, 10, 1);
        x.add(2, 30, 2);
        x.add(2, 90, 3);
        x.add(0, 90, 3);
        x.fire(3);
        x.advance(60);
        x.add(2, 5, 1);
        x.add(0, 92, 3);
        return x;
    }

    private static void everything() {
        BurstGrouper x = worked();
        String before = Picture.of(x);
        Check.due("35: records", x.save(), 5);
        Check.due("35: changes nothing else", Picture.of(x), before);
        x.setGap(2, 1);
        x.setFold(2, 3);
        x.setLateness(0);
        x.setTrigger(1);
        x.add(2, 91, 1);
        x.add(0, 80, 1);
        x.add(5, 80, 1);
        x.advance(20000);
        x.add(5, 80, 1);
        Check.due("36: records", x.restore(), 5);
        Check.due("36: all as it was", Picture.of(x), before);
        Check.due("36: numbers go on from there", x.add(7, 500, 1), 5);
        x.reset();
        x.setTrigger(1);
        for (int k = 0; k < 60; k++) {
            x.add(k % 7 + 1, 9000 - 140 * k, -k);
        }
        x.advance(20000);
        Check.due("36: it stays saved", x.restore(), 5);
        Check.due("36: all as it was again", Picture.of(x), before);
        BurstGrouper y = worked();
        y.add(2, 100, 4);
        x.add(2, 100, 4);
        y.advance(500);
        x.advance(500);
        Check.due("36: it goes on as another one", Picture.of(x), Picture.of(y));
    }

    private static void notSaved() {
        BurstGrouper x = worked();
        x.append('w');
        x.save();
        x.append('1');
        x.append('x');
        Check.throwing("33: wrong", IllegalArgumentException.class, x::read);
        x.append('w');
        x.append('2');
        x.restore();
        Check.due("36: the error position stays", x.errorPosition(), 2);
        Check.due("36: the input stays", x.append('3'), 3);
    }

    private static void savedTwice() {
        BurstGrouper x = new BurstGrouper();
        x.add(0, 1, 1);
        x.save();
        x.add(0, 2, 1);
        Check.due("35: again", x.save(), 2);
        x.reset();
        Check.due("36: what was saved last", x.restore(), 2);
        x.add(0, 3, 1);
        Check.due("36: what was saved does not follow", x.restore(), 2);
    }

    private static void fullLog() {
        BurstGrouper x = new BurstGrouper();
        x.setTrigger(1);
        for (int k = 0; k < 40; k++) {
            x.add(0, k, 1);
        }
        String before = Picture.of(x);
        x.save();
        x.reset();
        x.add(0, 1, 1);
        x.restore();
        Check.due("36: a log that has lost firings", Picture.of(x), before);
    }
}
