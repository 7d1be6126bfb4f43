/** Promises 11 and 12. */
final class ReplenishTest {
    public static void main(String[] args) {
        checkGoodsUpward();
        checkOtherWaves();
        checkDoneOnes();
        checkRefusals();
        Check.end();
    }

    private static void checkLacks(WavePlans x, String when, int wave, int... wantedByGood) {
        int i = 0;
        for (int good = 0; good < 10; good++) {
            int want = good < wantedByGood.length ? wantedByGood[good] : 0;
            Check.due(when + ": lacks(" + wave + ", " + good + ")", x.lacks(wave, good), want);
            if (want > 0) {
                Check.due(when + ": replenish(" + wave + ", " + i + ")", x.replenish(wave, i), good);
                i++;
            }
        }
        Check.due(when + ": behind the last good", x.replenish(wave, i), -1);
        Check.due(when + ": far behind it", x.replenish(wave, Integer.MAX_VALUE), -1);
    }

    private static void checkGoodsUpward() {
        WavePlans x = new WavePlans(100);
        x.hour(0, 0, 9);
        x.order(1, 0, 20);
        x.order(2, 0, 20);
        x.line(0, 9, 5);
        x.line(0, 0, 5);
        x.line(0, 4, 5);
        x.line(1, 4, 6);
        x.line(1, 2, 1);
        x.plan();
        checkLacks(x, "no stock", 1, 5, 0, 1, 0, 11, 0, 0, 0, 0, 5);
        x.stock(4, 10);
        x.stock(0, 4);
        x.stock(9, 5);
        checkLacks(x, "some stock", 1, 1, 0, 1, 0, 1);
        x.stock(4, 11);
        x.stock(0, 6);
        x.stock(2, 10000);
        checkLacks(x, "enough", 1);
    }

    private static WavePlans threeWaves() {
        WavePlans x = new WavePlans(50);
        x.hour(0, 0, 9);
        for (int i = 0; i < 3; i++) {
            x.order(i, 0, 50);
            x.line(i, 3, 10 * (i + 1));
        }
        x.plan();
        return x;
    }

    private static void checkOtherWaves() {
        WavePlans x = threeWaves();
        x.stock(3, 35);
        checkLacks(x, "planned waves take nothing", 3);
        x.release(1);
        checkLacks(x, "25 are left", 3, 0, 0, 0, 5);
        checkLacks(x, "25 are left", 2);
        checkLacks(x, "its own lines are not taken from it", 1);
        x.release(2);
        checkLacks(x, "5 are left", 3, 0, 0, 0, 25);
        x.stock(3, 8);
        checkLacks(x, "nothing is left, not below 0", 3, 0, 0, 0, 30);
        checkLacks(x, "a released wave lacks too", 1, 0, 0, 0, 10);
        checkLacks(x, "the other one too", 2, 0, 0, 0, 20);
        x.stock(3, 25);
        checkLacks(x, "a released wave lacks what the other wants", 1, 0, 0, 0, 5);
        checkLacks(x, "the other one, too", 2, 0, 0, 0, 5);
    }

    private static void checkDoneOnes() {
        WavePlans x = threeWaves();
        x.stock(3, 30);
        x.release(1);
        x.release(2);
        x.done(0);
        checkLacks(x, "20 are there, 20 are wanted", 2);
        checkLacks(x, "done orders want nothing", 1);
        checkLacks(x, "20 of 20 are another wave's", 3, 0, 0, 0, 30);
        x.stock(3, 25);
        checkLacks(x, "5 are left: the done ones take nothing", 3, 0, 0, 0, 25);
    }

    private static void checkRefusals() {
        WavePlans x = threeWaves();
        for (int wave : new int[] {Integer.MIN_VALUE, -1, 0, 4, 16, 17, Integer.MAX_VALUE}) {
            Check.refused("replenish of wave " + wave, Check.NOT_THERE, () -> x.replenish(wave, 0));
            Check.refused("lacks of wave " + wave, Check.NOT_THERE, () -> x.lacks(wave, 0));
            Check.refused("replenish of wave " + wave + ", -1", Check.NOT_THERE, () -> x.replenish(wave, -1));
            Check.refused("lacks of wave " + wave + ", 10", Check.NOT_THERE, () -> x.lacks(wave, 10));
        }
        Check.refused("replenish -1", Check.NOT_IN_RANGE, () -> x.replenish(1, -1));
        Check.refused("replenish far below", Check.NOT_IN_RANGE, () -> x.replenish(1, Integer.MIN_VALUE));
        Check.refused("good -1", Check.NOT_IN_RANGE, () -> x.lacks(1, -1));
        Check.refused("good 10", Check.NOT_IN_RANGE, () -> x.lacks(1, 10));
        x.cutoff(0, 0);
        Check.refused("replenish of an empty wave", Check.NOT_THERE, () -> x.replenish(1, -1));
        Check.refused("lacks of an empty wave", Check.NOT_THERE, () -> x.lacks(1, 10));
    }
}
