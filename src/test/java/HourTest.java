/** Promise 5. */
final class HourTest {
    public static void main(String[] args) {
        checkRefusals();
        checkRoom();
        checkWhatFits();
        Check.end();
    }

    private static void checkRefusals() {
        WavePlans x = new WavePlans(100);
        int[][] wrong = {{-1, 0, 1}, {4, 0, 1}, {0, -1, 1}, {0, 100001, 100001}, {0, 0, 100001}, {0, 0, -1}, {0, 5, 4}, {0, Integer.MIN_VALUE, Integer.MAX_VALUE}};
        for (int[] w : wrong) {
            Check.refused("hour(" + w[0] + ", " + w[1] + ", " + w[2] + ")", Check.NOT_IN_RANGE, () -> x.hour(w[0], w[1], w[2]));
        }
        Check.due("the first hour after refusals", x.hour(0, 0, 0), 1);
    }

    private static void checkRoom() {
        WavePlans x = new WavePlans(100);
        Check.due("all times", x.hour(3, 0, 100000), 1);
        Check.due("the last time alone", x.hour(3, 100000, 100000), 2);
        Check.due("another carrier", x.hour(0, 5, 5), 1);
        Check.due("the same hour again", x.hour(0, 5, 5), 2);
        for (int i = 3; i <= 8; i++) {
            Check.due("hour " + i + " of carrier 3", x.hour(3, i, i), i);
        }
        Check.refused("the 11th in all", Check.NO_ROOM, () -> x.hour(1, 0, 1));
        Check.refused("the 11th, ending before it begins", Check.NOT_IN_RANGE, () -> x.hour(1, 1, 0));
    }

    private static void checkWhatFits() {
        WavePlans x = new WavePlans(65536);
        int[] dues = {9, 10, 20, 21, 30, 31, 15};
        for (int d : dues) {
            x.order(d, 0, 10);
        }
        x.carrier(6, 1);
        x.hour(0, 10, 20);
        x.hour(0, 30, 30);
        x.plan();
        int[] want = {0, 1, 1, 0, 1, 0, 0};
        for (int i = 0; i < want.length; i++) {
            Check.due("wave of the order due at " + dues[i], x.wave(i), want[i]);
        }
    }
}
