/** Promise 14. */
final class DoneTest {
    public static void main(String[] args) {
        checkDone();
        checkStock();
        Check.end();
    }

    private static void checkDone() {
        WavePlans x = new WavePlans(100);
        x.hour(0, 0, 9);
        for (int i = 0; i < 3; i++) {
            x.order(i, 0, 30);
        }
        x.order(50, 0, 30);
        x.order(60, 0, 30);
        for (int order : new int[] {Integer.MIN_VALUE, -1, 5, 16, Integer.MAX_VALUE}) {
            Check.refused("order " + order, Check.NOT_THERE, () -> x.done(order));
        }
        Check.refused("free", Check.NOT_NOW, () -> x.done(0));
        x.plan();
        Check.refused("in a wave that is not released", Check.NOT_NOW, () -> x.done(0));
        x.cutoff(0, 0);
        Check.refused("late", Check.NOT_NOW, () -> x.done(0));
        x.release(1);
        Check.due("one is not done", x.done(2), 1);
        Check.refused("done twice", Check.NOT_NOW, () -> x.done(2));
        Check.due("done ones", x.told(1, 6), 1);
        Check.due("none is left to do", x.done(1), 0);
        Check.due("the wave is kept", x.told(1, 2), 2);
        Check.due("its seconds are kept", x.told(1, 0), 50);
        Check.due("done in all", x.count(4), 2);
        Check.refused("free, still", Check.NOT_NOW, () -> x.done(3));
        Check.due("a cut-off leaves done ones", x.cutoff(0, 100000), 2);
        Check.due("waves", x.count(1), 1);
    }

    private static void checkStock() {
        WavePlans x = new WavePlans(50);
        x.hour(0, 0, 9);
        x.order(0, 0, 50);
        x.order(1, 0, 50);
        x.line(0, 2, 10);
        x.line(0, 9, 100);
        x.line(1, 2, 100);
        x.line(1, 9, 100);
        x.stock(2, 15);
        x.stock(9, 100);
        x.stock(5, 1);
        x.plan();
        x.release(1);
        x.stock(9, 30);
        Check.due("all of the wave is done", x.done(0), 0);
        Check.due("10 were taken", x.lacks(2, 2), 95);
        Check.due("30 were taken, as far as they are there", x.lacks(2, 9), 100);
        x.stock(9, 100);
        x.stock(2, 100);
        Check.due("enough again", x.release(2), 0);
        x.done(1);
        x.order(2, 0, 50);
        x.line(2, 2, 1);
        x.line(2, 9, 1);
        x.line(2, 5, 1);
        x.plan();
        Check.due("all were taken", x.lacks(3, 2), 1);
        Check.due("of both goods", x.lacks(3, 9), 1);
        Check.due("none of another good", x.lacks(3, 5), 0);
    }
}
