/** Promise 9. */
final class ToldTest {
    public static void main(String[] args) {
        WavePlans x = new WavePlans(200);
        x.hour(2, 0, 50);
        x.order(20, 1, 40);
        x.order(10, 1, 40);
        x.order(30, 2, 40);
        for (int o = 0; o < 3; o++) {
            x.carrier(o, 2);
        }
        x.plan();
        checkTold(x, "planned", 105, 15, 3, 10, 2, 0, 0);
        x.change(1, 25);
        checkTold(x, "another due time", 105, 15, 3, 20, 2, 0, 0);
        x.change(2, 51);
        checkTold(x, "one left", 70, 10, 2, 20, 2, 0, 0);
        x.release(1);
        checkTold(x, "released", 70, 10, 2, 20, 2, 1, 0);
        x.done(0);
        checkTold(x, "one done", 70, 10, 2, 20, 2, 1, 1);
        x.done(1);
        checkTold(x, "both done", 70, 10, 2, 20, 2, 1, 2);
        checkRefusals(x);
        checkSavedAnew();
        Check.end();
    }

    private static void checkTold(WavePlans x, String when, int... want) {
        for (int what = 0; what < want.length; what++) {
            Check.due(when + ": told(1, " + what + ")", x.told(1, what), want[what]);
        }
    }

    private static void checkRefusals(WavePlans x) {
        Check.refused("wave 0", Check.NOT_THERE, () -> x.told(0, 0));
        Check.refused("wave -1", Check.NOT_THERE, () -> x.told(-1, 0));
        Check.refused("wave 2 of one, wrong what", Check.NOT_THERE, () -> x.told(2, 7));
        Check.refused("wave 17", Check.NOT_THERE, () -> x.told(17, 0));
        Check.refused("far outside", Check.NOT_THERE, () -> x.told(Integer.MIN_VALUE, 0));
        Check.refused("what -1", Check.NOT_IN_RANGE, () -> x.told(1, -1));
        Check.refused("what 7", Check.NOT_IN_RANGE, () -> x.told(1, 7));
        Check.refused("what far outside", Check.NOT_IN_RANGE, () -> x.told(1, Integer.MAX_VALUE));
        WavePlans y = new WavePlans(10);
        y.hour(0, 0, 0);
        y.order(0, 0, 10);
        y.plan();
        Check.due("a wave with an order", y.told(1, 2), 1);
        y.cutoff(0, 0);
        for (int what = -1; what <= 7; what++) {
            int asked = what;
            Check.refused("an empty wave, what " + what, Check.NOT_THERE, () -> y.told(1, asked));
        }
    }

    /** When the one that the others saved with leaves, what is saved is counted anew, even above the capacity. */
    private static void checkSavedAnew() {
        WavePlans x = new WavePlans(100);
        x.hour(0, 0, 9);
        x.order(1, 3, 10);
        x.order(2, 2, 50);
        x.order(3, 4, 50);
        Check.due("both neighbours of the first", x.plan(), 10);
        Check.due("seconds", x.told(1, 0), 100);
        x.change(0, 10);
        Check.due("saved without it", x.told(1, 1), 0);
        Check.due("seconds without it", x.told(1, 0), 100);
        WavePlans y = new WavePlans(22);
        y.hour(0, 0, 9);
        y.order(1, 3, 2);
        y.order(2, 2, 12);
        y.order(3, 4, 12);
        Check.due("saved", y.plan(), 4);
        y.change(0, 10);
        Check.due("more seconds than the capacity", y.told(1, 0), 24);
    }
}
