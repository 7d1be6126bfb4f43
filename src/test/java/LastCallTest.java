/** "An object is used for at most 512 calls after it has been made": each call is as promised even as the 512th. */
final class LastCallTest {
    public static void main(String[] args) {
        last("8", "order", 100000, 7, 10000);
        last("2", "line", 7, 9, 100);
        last("ok", "carrier", 7, 3);
        last("2", "hour", 0, 100000, 100000);
        last("ok", "stock", 9, 10000);
        last("0", "plan");
        last("2", "wave", 3);
        last("50", "told", 2, 0);
        last("3", "member", 2, 1);
        last("5", "replenish", 2, 0);
        last("4", "lacks", 2, 5);
        last("2", "release", 2);
        last("0", "release", 3);
        last("0", "done", 1);
        last("true", "change", 2, 10);
        last("90", "join", 2, 3);
        last("4", "cutoff", 0, 9);
        last("6", "late", 0);
        last("8", "count", 0);
        last("IllegalArgumentException", "order", -1, 0, 1);
        last("NoSuchElementException", "told", 4, 0);
        last("IllegalStateException", "done", 0);
        Check.end();
    }

    private static void last(String want, String name, int... numbers) {
        Plans x = withEverything();
        while (x.callsLeft() > 1) {
            Check.due("orders", x.call("count", 0), "8");
        }
        Check.due("call 512: " + name, x.call(name, numbers), want);
        Check.due("calls left", x.callsLeft(), 0);
    }

    /** A released wave with an order done and one not, two planned ones, a late order and a free one. */
    private static Plans withEverything() {
        Plans x = new Plans(100);
        x.call("hour", 0, 0, 9);
        x.call("order", 1, 0, 30);
        x.call("order", 1, 0, 30);
        x.call("plan");
        x.call("release", 1);
        x.call("done", 0);
        x.call("order", 2, 3, 30);
        x.call("order", 2, 3, 30);
        x.call("line", 2, 5, 4);
        x.call("plan");
        x.call("order", 3, 7, 25);
        x.call("order", 3, 7, 25);
        x.call("plan");
        x.call("order", 0, 0, 5);
        x.call("cutoff", 0, 0);
        x.call("order", 10, 0, 5);
        x.call("line", 7, 8, 1);
        return x;
    }
}
