/** Promise 6. */
final class StockTest {
    public static void main(String[] args) {
        WavePlans x = new WavePlans(100);
        x.order(5, 0, 10);
        x.line(0, 0, 50);
        x.line(0, 9, 100);
        x.hour(0, 5, 5);
        x.plan();
        Check.refused("good -1", Check.NOT_IN_RANGE, () -> x.stock(-1, 0));
        Check.refused("good 10", Check.NOT_IN_RANGE, () -> x.stock(10, 0));
        Check.refused("-1 pieces", Check.NOT_IN_RANGE, () -> x.stock(0, -1));
        Check.refused("10001 pieces", Check.NOT_IN_RANGE, () -> x.stock(0, 10001));
        Check.refused("far outside", Check.NOT_IN_RANGE, () -> x.stock(Integer.MAX_VALUE, Integer.MIN_VALUE));
        Check.due("no stock at first", x.lacks(1, 0), 50);
        x.stock(0, 20);
        Check.due("20 are there", x.lacks(1, 0), 30);
        x.stock(0, 25);
        Check.due("25 are there, not 45", x.lacks(1, 0), 25);
        x.stock(9, 10000);
        Check.due("10000 are there", x.lacks(1, 9), 0);
        Check.due("of good 0 as before", x.lacks(1, 0), 25);
        x.stock(9, 0);
        Check.due("none is there again", x.lacks(1, 9), 100);
        Check.end();
    }
}
