/** Promise 1. */
final class NewObjectTest {
    public static void main(String[] args) {
        checkCapacities();
        checkNothingThere();
        checkObjectsApart();
        Check.end();
    }

    private static void checkCapacities() {
        int[] told = {Integer.MIN_VALUE, -1, 0, 1, 300, 65535, 65536, 65537, Integer.MAX_VALUE};
        int[] kept = {0, 0, 0, 1, 300, 65535, 65536, 65536, 65536};
        for (int i = 0; i < told.length; i++) {
            Check.due("capacity of " + told[i], new WavePlans(told[i]).count(6), kept[i]);
        }
        WavePlans none = new WavePlans(-1);
        none.hour(0, 0, 100000);
        none.order(0, 0, 1);
        Check.due("plan with no capacity", none.plan(), 0);
        Check.due("wave with no capacity", none.wave(0), 0);
        checkGreatestCapacity();
    }

    /** Six orders of one zone have 59950 seconds; the seventh saves nothing and just fits, or is 1 too many. */
    private static void checkGreatestCapacity() {
        for (int more = 0; more <= 1; more++) {
            WavePlans x = new WavePlans(Integer.MAX_VALUE);
            x.hour(0, 0, 100000);
            for (int i = 0; i < 6; i++) {
                x.order(i, 0, 10000);
            }
            x.order(6, 7, 65536 - 59950 + more);
            Check.due("saved", x.plan(), 50);
            Check.due("wave of the seventh", x.wave(6), 1 + more);
            Check.due("seconds of the first wave", x.told(1, 0), more == 0 ? 65536 : 59950);
        }
    }

    private static void checkNothingThere() {
        WavePlans x = new WavePlans(100);
        for (int what = 0; what < 6; what++) {
            Check.due("count(" + what + ") of a new object", x.count(what), 0);
        }
        Check.due("late(0) of a new object", x.late(0), -1);
        Check.refused("wave(0) of a new object", Check.NOT_THERE, () -> x.wave(0));
        Check.refused("told(1, 0) of a new object", Check.NOT_THERE, () -> x.told(1, 0));
        Check.due("cutoff of a new object", x.cutoff(0, 100000), 0);
        Check.due("plan of a new object", x.plan(), 0);
        x.order(5, 0, 10);
        Check.due("plan without hours", x.plan(), 0);
        Check.due("wave without hours", x.wave(0), 0);
        x.line(0, 3, 1);
        x.hour(0, 5, 5);
        x.plan();
        Check.due("lacks without stock", x.lacks(1, 3), 1);
    }

    private static void checkObjectsApart() {
        WavePlans one = new WavePlans(10);
        WavePlans two = new WavePlans(20);
        one.order(0, 0, 1);
        one.hour(0, 0, 0);
        Check.due("orders of another object", two.count(0), 0);
        Check.due("hours of another object", two.hour(0, 0, 0), 1);
        Check.due("capacity of the one", one.count(6), 10);
        Check.due("capacity of the other", two.count(6), 20);
    }
}
