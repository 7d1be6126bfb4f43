/** Promise 17. */
final class CutoffTest {
    public static void main(String[] args) {
        for (int carrier : new int[] {Integer.MIN_VALUE, -1, 4, Integer.MAX_VALUE}) {
            Check.refused("carrier " + carrier, Check.NOT_IN_RANGE, () -> new WavePlans(1).cutoff(carrier, 0));
        }
        for (int time : new int[] {Integer.MIN_VALUE, -1, 100001, Integer.MAX_VALUE}) {
            Check.refused("time " + time, Check.NOT_IN_RANGE, () -> new WavePlans(1).cutoff(0, time));
        }
        Check.due("first carrier and time", new WavePlans(1).cutoff(0, 0), 0);
        Check.due("last carrier and time", new WavePlans(1).cutoff(3, 100000), 0);
        checkFreeOnes();
        checkWaves();
        Check.end();
    }

    private static void checkFreeOnes() {
        WavePlans x = new WavePlans(100);
        x.order(5, 0, 10);
        x.order(6, 0, 10);
        x.order(4, 0, 10);
        x.order(4, 0, 10);
        x.carrier(3, 1);
        Check.due("before all", x.cutoff(0, 3), 0);
        Check.due("at or before", x.cutoff(0, 5), 2);
        Check.due("at it: late", x.wave(0), -1);
        Check.due("behind it: free", x.wave(1), 0);
        Check.due("before it: late", x.wave(2), -1);
        Check.due("another carrier's: free", x.wave(3), 0);
        Check.due("late ones are not late twice", x.cutoff(0, 5), 0);
        Check.due("the rest", x.cutoff(0, 100000), 1);
        Check.due("the other carrier's", x.cutoff(1, 4), 1);
        x.hour(0, 0, 100);
        Check.due("late ones are not planned", x.plan(), 0);
        Check.due("no waves", x.count(1), 0);
    }

    private static void checkWaves() {
        WavePlans x = new WavePlans(99);
        x.hour(0, 0, 100);
        for (int i = 0; i < 6; i++) {
            x.order(i, 0, 40);
        }
        x.plan();
        Check.due("two in each wave", x.told(1, 2), 2);
        x.release(2);
        Check.due("all of the first, none of the released, one of the third", x.cutoff(0, 4), 3);
        Check.refused("the first is empty", Check.NOT_THERE, () -> x.told(1, 2));
        Check.due("the second has its orders", x.told(2, 2), 2);
        Check.due("the third has one", x.told(3, 2), 1);
        Check.due("this one", x.member(3, 0), 5);
        Check.due("its seconds", x.told(3, 0), 40);
        Check.due("its due time", x.told(3, 3), 5);
        Check.due("in a wave", x.wave(2), 2);
        x.done(2);
        Check.due("done ones and released ones stay", x.cutoff(0, 100000), 1);
        Check.due("waves", x.count(1), 1);
        Check.due("late ones", x.count(3), 4);
    }
}
