/** Promise 16. */
final class JoinTest {
    public static void main(String[] args) {
        checkJoined();
        checkCapacity();
        checkCarriers();
        checkReleasedAndSame();
        checkNotThere();
        Check.end();
    }

    /** Two waves of carrier 0: 0 and 1 in the first, 2 and 3 in the second. */
    private static WavePlans twoWaves(int capacity) {
        WavePlans x = new WavePlans(capacity);
        x.hour(0, 0, 99);
        x.order(10, 2, 40);
        x.order(11, 2, 40);
        x.plan();
        x.order(5, 3, 20);
        x.order(6, 3, 20);
        x.plan();
        return x;
    }

    private static void checkJoined() {
        WavePlans x = twoWaves(1000);
        Check.due("first behind second", x.join(2, 1), 95);
        int[] want = {2, 3, 0, 1};
        for (int i = 0; i < want.length; i++) {
            Check.due("member " + i, x.member(2, i), want[i]);
            Check.due("its wave", x.wave(i), 2);
        }
        Check.due("seconds", x.told(2, 0), 95);
        Check.due("saved", x.told(2, 1), 25);
        Check.due("orders", x.told(2, 2), 4);
        Check.due("due", x.told(2, 3), 5);
        Check.due("waves", x.count(1), 1);
        Check.due("saved in all", x.count(5), 25);
        Check.refused("the other is empty", Check.NOT_THERE, () -> x.told(1, 0));
        Check.refused("joined with an empty one", Check.NOT_THERE, () -> x.join(2, 1));
        Check.refused("an empty one joined", Check.NOT_THERE, () -> x.join(1, 2));
        Check.due("a joined wave is released as one", x.release(2), 0);
        Check.due("an order that came by joining is done", x.done(0), 3);
        Check.due("second behind first", twoWaves(1000).join(1, 2), 95);
    }

    private static void checkCapacity() {
        WavePlans within = twoWaves(95);
        Check.due("two waves with free places", within.count(1), 2);
        Check.due("just the capacity", within.join(1, 2), 95);
        WavePlans over = twoWaves(94);
        Check.refused("one second too many", Check.NOT_NOW, () -> over.join(1, 2));
        Check.due("first as before", over.told(1, 2), 2);
        Check.due("second as before", over.told(2, 2), 2);
        Check.due("its order as before", over.wave(2), 2);
        Check.due("saved as before", over.count(5), 20);
    }

    private static void checkCarriers() {
        WavePlans x = new WavePlans(1000);
        x.hour(0, 0, 9);
        x.hour(1, 0, 9);
        x.order(1, 0, 10);
        x.order(2, 0, 10);
        x.carrier(1, 1);
        x.plan();
        Check.refused("different carriers", Check.NOT_NOW, () -> x.join(1, 2));
        Check.due("both are there", x.count(1), 2);
    }

    private static void checkReleasedAndSame() {
        WavePlans x = twoWaves(1000);
        Check.refused("the same", Check.NOT_NOW, () -> x.join(1, 1));
        Check.due("its orders as before", x.told(1, 2), 2);
        x.release(1);
        Check.refused("the first is released", Check.NOT_NOW, () -> x.join(1, 2));
        Check.refused("the second is released", Check.NOT_NOW, () -> x.join(2, 1));
        x.release(2);
        Check.refused("both are released", Check.NOT_NOW, () -> x.join(1, 2));
    }

    private static void checkNotThere() {
        WavePlans x = twoWaves(1000);
        for (int wave : new int[] {Integer.MIN_VALUE, -1, 0, 3, 16, 17, Integer.MAX_VALUE}) {
            Check.refused("first " + wave, Check.NOT_THERE, () -> x.join(wave, 1));
            Check.refused("second " + wave, Check.NOT_THERE, () -> x.join(1, wave));
            Check.refused("both " + wave, Check.NOT_THERE, () -> x.join(wave, wave));
        }
        x.release(1);
        Check.refused("no wave before a released one", Check.NOT_THERE, () -> x.join(1, 3));
    }
}
