/** Promise 18. */
final class LateTest {
    public static void main(String[] args) {
        WavePlans x = new WavePlans(100);
        Check.due("none is late", x.late(0), -1);
        Check.refused("-1", Check.NOT_IN_RANGE, () -> x.late(-1));
        Check.refused("far below", Check.NOT_IN_RANGE, () -> x.late(Integer.MIN_VALUE));
        int[] dues = {9, 3, 7, 1, 5};
        for (int due : dues) {
            x.order(due, 0, 10);
        }
        x.cutoff(0, 1);
        checkLate(x, 3);
        x.cutoff(0, 3);
        checkLate(x, 1, 3);
        x.cutoff(0, 7);
        checkLate(x, 1, 2, 3, 4);
        x.cutoff(0, 9);
        checkLate(x, 0, 1, 2, 3, 4);
        Check.refused("-1, still", Check.NOT_IN_RANGE, () -> x.late(-1));
        checkSixteen();
        Check.end();
    }

    private static void checkLate(WavePlans x, int... want) {
        for (int i = 0; i < want.length; i++) {
            Check.due("late(" + i + ") of " + want.length, x.late(i), want[i]);
        }
        Check.due("behind the last", x.late(want.length), -1);
        Check.due("far behind it", x.late(Integer.MAX_VALUE), -1);
        Check.due("how many", x.count(3), want.length);
    }

    private static void checkSixteen() {
        WavePlans x = new WavePlans(100);
        int[] all = new int[16];
        for (int i = 0; i < 16; i++) {
            all[i] = x.order(0, 0, 1);
        }
        Check.due("all at once", x.cutoff(0, 0), 16);
        checkLate(x, all);
    }
}
