/** Promise 19. */
final class CountTest {
    public static void main(String[] args) {
        WavePlans x = new WavePlans(90);
        checkCounts(x, "new", 0, 0, 0, 0, 0, 0, 90);
        x.hour(0, 0, 20);
        x.order(1, 0, 50);
        x.order(2, 0, 50);
        x.order(3, 1, 40);
        x.order(30, 1, 40);
        x.order(4, 1, 40);
        checkCounts(x, "orders", 5, 0, 5, 0, 0, 0, 90);
        x.plan();
        checkCounts(x, "planned", 5, 2, 1, 0, 0, 20, 90);
        x.release(1);
        x.done(0);
        checkCounts(x, "one done", 5, 2, 1, 0, 1, 20, 90);
        x.change(4, 50);
        checkCounts(x, "one left", 5, 2, 2, 0, 1, 10, 90);
        x.cutoff(0, 30);
        checkCounts(x, "some late", 5, 1, 1, 2, 1, 10, 90);
        x.cutoff(0, 100000);
        checkCounts(x, "all late", 5, 1, 0, 3, 1, 10, 90);
        x.done(1);
        checkCounts(x, "two done", 5, 1, 0, 3, 2, 10, 90);
        Check.end();
    }

    private static void checkCounts(WavePlans x, String when, int... want) {
        for (int what = 0; what < want.length; what++) {
            Check.due(when + ": count(" + what + ")", x.count(what), want[what]);
        }
        for (int what : new int[] {Integer.MIN_VALUE, -1, 7, Integer.MAX_VALUE}) {
            Check.due(when + ": count(" + what + ")", x.count(what), -1);
        }
    }
}
