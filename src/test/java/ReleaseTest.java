/** Promise 13. Answer 1 can't be reached: an order whose due time does not fit leaves a wave that is not released. */
final class ReleaseTest {
    public static void main(String[] args) {
        WavePlans x = new WavePlans(50);
        x.hour(0, 0, 9);
        x.order(1, 0, 50);
        x.order(2, 0, 50);
        x.order(3, 0, 50);
        x.line(0, 6, 4);
        x.line(1, 6, 3);
        x.plan();
        Check.due("no stock", x.release(1), 2);
        Check.due("it is not released", x.told(1, 5), 0);
        Check.due("no lines, nothing is lacked", x.release(3), 0);
        Check.due("it is released", x.told(3, 5), 1);
        Check.refused("released twice", Check.NOT_NOW, () -> x.release(3));
        x.stock(6, 6);
        Check.due("enough for the first", x.release(1), 0);
        Check.due("2 of 3 are left for the second", x.release(2), 2);
        Check.refused("released twice, too", Check.NOT_NOW, () -> x.release(1));
        x.stock(6, 7);
        Check.due("just enough for the second", x.release(2), 0);
        x.stock(6, 0);
        Check.refused("released, though it lacks now", Check.NOT_NOW, () -> x.release(2));
        for (int wave : new int[] {Integer.MIN_VALUE, -1, 0, 4, 16, 17, Integer.MAX_VALUE}) {
            Check.refused("wave " + wave, Check.NOT_THERE, () -> x.release(wave));
        }
        checkChangedDue();
        Check.end();
    }

    private static void checkChangedDue() {
        WavePlans x = new WavePlans(100);
        x.hour(0, 0, 9);
        x.order(1, 0, 50);
        x.order(2, 0, 50);
        x.plan();
        x.change(0, 10);
        Check.due("what did not fit has left", x.release(1), 0);
        Check.due("one order", x.told(1, 2), 1);
        x.change(0, 1);
        x.plan();
        x.cutoff(0, 1);
        Check.refused("an empty wave", Check.NOT_THERE, () -> x.release(2));
    }
}
