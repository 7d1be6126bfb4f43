/** Promise 3. */
final class LineTest {
    public static void main(String[] args) {
        checkAnswers();
        checkRefusals();
        checkNotFree();
        checkOrderOfRefusals();
        Check.end();
    }

    private static void checkAnswers() {
        WavePlans x = new WavePlans(100);
        x.order(5, 0, 10);
        x.order(5, 0, 10);
        Check.due("the first good, the fewest pieces", x.line(0, 0, 1), 1);
        Check.due("the last good, the most pieces", x.line(0, 9, 100), 2);
        Check.due("another order's lines are its own", x.line(1, 9, 100), 1);
        Check.due("third line", x.line(0, 4, 7), 3);
        Check.due("fourth line", x.line(0, 5, 7), 4);
        Check.refused("fifth line", Check.NO_ROOM, () -> x.line(0, 6, 7));
        x.hour(0, 0, 9);
        x.plan();
        Check.due("pieces wanted of good 0", x.lacks(1, 0), 1);
        Check.due("pieces wanted of good 9", x.lacks(1, 9), 200);
        Check.due("pieces wanted of good 6", x.lacks(1, 6), 0);
    }

    private static void checkRefusals() {
        WavePlans x = new WavePlans(100);
        x.order(5, 0, 10);
        Check.refused("order -1", Check.NOT_THERE, () -> x.line(-1, 0, 1));
        Check.refused("order 1 of one", Check.NOT_THERE, () -> x.line(1, 0, 1));
        Check.refused("order 16", Check.NOT_THERE, () -> x.line(16, 0, 1));
        Check.refused("good -1", Check.NOT_IN_RANGE, () -> x.line(0, -1, 1));
        Check.refused("good 10", Check.NOT_IN_RANGE, () -> x.line(0, 10, 1));
        Check.refused("0 pieces", Check.NOT_IN_RANGE, () -> x.line(0, 0, 0));
        Check.refused("101 pieces", Check.NOT_IN_RANGE, () -> x.line(0, 0, 101));
        Check.refused("far below", Check.NOT_IN_RANGE, () -> x.line(0, Integer.MIN_VALUE, Integer.MIN_VALUE));
        Check.due("a line after refusals", x.line(0, 0, 1), 1);
        Check.refused("another one of this good", Check.NOT_NOW, () -> x.line(0, 0, 2));
        Check.due("a line after that", x.line(0, 1, 1), 2);
    }

    private static void checkNotFree() {
        WavePlans x = new WavePlans(100);
        x.order(5, 0, 10);
        x.order(50, 0, 10);
        x.hour(0, 5, 5);
        x.plan();
        Check.refused("in a wave", Check.NOT_NOW, () -> x.line(0, 1, 1));
        x.release(1);
        Check.refused("in a released wave", Check.NOT_NOW, () -> x.line(0, 1, 1));
        x.cutoff(0, 50);
        Check.refused("late", Check.NOT_NOW, () -> x.line(1, 1, 1));
    }

    private static void checkOrderOfRefusals() {
        WavePlans x = new WavePlans(100);
        x.order(5, 0, 10);
        for (int good = 0; good < 4; good++) {
            x.line(0, good, 1);
        }
        Check.refused("no order before a wrong good", Check.NOT_THERE, () -> x.line(1, 10, 0));
        Check.refused("a wrong number before a full order", Check.NOT_IN_RANGE, () -> x.line(0, 4, 0));
        Check.refused("a good that is there before a full order", Check.NOT_NOW, () -> x.line(0, 3, 1));
        x.cutoff(0, 5);
        Check.refused("a wrong number before a late order", Check.NOT_IN_RANGE, () -> x.line(0, 10, 1));
        Check.refused("a late order before a full one", Check.NOT_NOW, () -> x.line(0, 4, 1));
    }
}
