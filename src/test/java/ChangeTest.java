/** Promise 15. */
final class ChangeTest {
    public static void main(String[] args) {
        checkRefusals();
        checkFree();
        checkInAWave();
        checkReleased();
        Check.end();
    }

    private static WavePlans planned() {
        WavePlans x = new WavePlans(100);
        x.hour(0, 10, 20);
        x.hour(1, 30, 40);
        x.order(10, 0, 30);
        x.order(15, 0, 30);
        x.order(20, 0, 30);
        x.plan();
        return x;
    }

    private static void checkRefusals() {
        WavePlans x = planned();
        for (int order : new int[] {Integer.MIN_VALUE, -1, 3, 16, Integer.MAX_VALUE}) {
            Check.refused("order " + order, Check.NOT_THERE, () -> x.change(order, 15));
            Check.refused("order " + order + ", wrong time", Check.NOT_THERE, () -> x.change(order, -1));
        }
        for (int due : new int[] {Integer.MIN_VALUE, -1, 100001, Integer.MAX_VALUE}) {
            Check.refused("due " + due, Check.NOT_IN_RANGE, () -> x.change(0, due));
        }
        Check.due("refused, it stays", x.wave(0), 1);
        Check.due("refused, as due as before", x.told(1, 3), 10);
        x.cutoff(0, 10);
        Check.refused("late", Check.NOT_NOW, () -> x.change(0, 15));
        Check.refused("late, wrong time", Check.NOT_IN_RANGE, () -> x.change(0, 100001));
        x.release(1);
        x.done(1);
        Check.refused("done", Check.NOT_NOW, () -> x.change(1, 15));
        Check.refused("done, wrong time", Check.NOT_IN_RANGE, () -> x.change(1, -1));
        Check.due("due as before", x.told(1, 3), 15);
    }

    private static void checkFree() {
        WavePlans x = new WavePlans(100);
        x.order(5, 0, 30);
        Check.due("a free one leaves no wave", x.change(0, 0), false);
        Check.due("the last time", x.change(0, 100000), false);
        x.hour(0, 100000, 100000);
        x.plan();
        Check.due("it has its new time", x.told(1, 3), 100000);
        Check.due("and came into a wave", x.wave(0), 1);
    }

    private static void checkInAWave() {
        WavePlans x = planned();
        Check.due("the hour's last time fits", x.change(0, 20), false);
        Check.due("the hour's first time fits", x.change(1, 10), false);
        Check.due("least due time", x.told(1, 3), 10);
        Check.due("just behind the hour", x.change(0, 21), true);
        Check.due("it is free", x.wave(0), 0);
        Check.due("just before the hour", x.change(1, 9), true);
        Check.due("one is left", x.told(1, 2), 1);
        Check.due("another carrier's hour", x.change(2, 35), true);
        Check.refused("the wave is empty", Check.NOT_THERE, () -> x.told(1, 2));
        Check.due("three free ones", x.count(2), 3);
        Check.due("free, no wave to leave", x.change(2, 36), false);
        x.hour(0, 36, 36);
        x.plan();
        Check.due("planned anew with its new time", x.wave(2), 2);
        Check.due("this time", x.told(2, 3), 36);
    }

    private static void checkReleased() {
        WavePlans x = planned();
        x.release(1);
        Check.due("it stays in a released wave", x.change(0, 99), false);
        Check.due("in it", x.wave(0), 1);
        Check.due("with its new time", x.told(1, 3), 15);
        x.change(2, 0);
        Check.due("the least one now", x.told(1, 3), 0);
        Check.due("as it came", x.member(1, 0), 0);
    }
}
