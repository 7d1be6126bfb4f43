/** Promise 2. */
final class OrderTest {
    public static void main(String[] args) {
        WavePlans x = new WavePlans(100);
        checkRefused(x, -1, 0, 1);
        checkRefused(x, 100001, 0, 1);
        checkRefused(x, 0, -1, 1);
        checkRefused(x, 0, 8, 1);
        checkRefused(x, 0, 0, 0);
        checkRefused(x, 0, 0, 10001);
        checkRefused(x, Integer.MIN_VALUE, Integer.MAX_VALUE, Integer.MIN_VALUE);
        checkRefused(x, Integer.MAX_VALUE, Integer.MIN_VALUE, Integer.MAX_VALUE);
        Check.due("orders after refusals", x.count(0), 0);

        Check.due("order with each first number", x.order(0, 0, 1), 0);
        Check.due("order with each last number", x.order(100000, 7, 10000), 1);
        for (int i = 2; i < 16; i++) {
            Check.due("order " + i, x.order(i, i % 8, i), i);
            Check.due("it is free", x.wave(i), 0);
        }
        Check.due("orders", x.count(0), 16);
        Check.refused("the 17th order", Check.NO_ROOM, () -> x.order(0, 0, 1));
        checkRefused(x, 0, 8, 1);
        Check.due("orders, still", x.count(0), 16);
        checkCarrierAtFirst();
        Check.end();
    }

    private static void checkRefused(WavePlans x, int due, int zone, int seconds) {
        Check.refused("order(" + due + ", " + zone + ", " + seconds + ")", Check.NOT_IN_RANGE, () -> x.order(due, zone, seconds));
    }

    private static void checkCarrierAtFirst() {
        WavePlans x = new WavePlans(100);
        x.hour(0, 7, 7);
        x.order(7, 1, 33);
        x.plan();
        Check.due("carrier at first", x.told(1, 4), 0);
        Check.due("seconds as told", x.told(1, 0), 33);
        Check.due("due time as told", x.told(1, 3), 7);
    }
}
