import java.util.Map;

/** A WavePlans whose calls are told by name and whose answers are texts, within the 512 calls of an object. */
final class Plans {
    static final int MOST_CALLS = 512;

    private static final Map<String, Integer> FIRST_NUMBERS = Map.of(
        "order", 3, "line", 3, "carrier", 2, "hour", 3, "stock", 2, "plan", 0, "wave", 1, "told", 2, "member", 2);
    private static final Map<String, Integer> LAST_NUMBERS = Map.of(
        "replenish", 2, "lacks", 2, "release", 1, "done", 1, "change", 2, "join", 2, "cutoff", 2, "late", 1, "count", 1);

    private final WavePlans x;
    private int calls;

    Plans(int capacity) {
        x = new WavePlans(capacity);
    }

    int callsLeft() {
        return MOST_CALLS - calls;
    }

    static boolean isName(String name, int numbers) {
        return FIRST_NUMBERS.getOrDefault(name, -1) == numbers || LAST_NUMBERS.getOrDefault(name, -1) == numbers;
    }

    /** The answer, "ok" of a call that has none, or the name of the exception that it throws. */
    String call(String name, int... n) {
        if (!isName(name, n.length) || calls == MOST_CALLS) {
            throw new AssertionError("the test is wrong: no call " + name + " with " + n.length + " numbers, or none left");
        }
        calls++;
        try {
            return answer(name, n);
        } catch (RuntimeException e) {
            return e.getClass().getSimpleName();
        }
    }

    private String answer(String name, int[] n) {
        return switch (name) {
            case "order" -> text(x.order(n[0], n[1], n[2]));
            case "line" -> text(x.line(n[0], n[1], n[2]));
            case "carrier" -> ok(() -> x.carrier(n[0], n[1]));
            case "hour" -> text(x.hour(n[0], n[1], n[2]));
            case "stock" -> ok(() -> x.stock(n[0], n[1]));
            case "plan" -> text(x.plan());
            case "wave" -> text(x.wave(n[0]));
            case "told" -> text(x.told(n[0], n[1]));
            case "member" -> text(x.member(n[0], n[1]));
            case "replenish" -> text(x.replenish(n[0], n[1]));
            case "lacks" -> text(x.lacks(n[0], n[1]));
            case "release" -> text(x.release(n[0]));
            case "done" -> text(x.done(n[0]));
            case "change" -> Boolean.toString(x.change(n[0], n[1]));
            case "join" -> text(x.join(n[0], n[1]));
            case "cutoff" -> text(x.cutoff(n[0], n[1]));
            case "late" -> text(x.late(n[0]));
            default -> text(x.count(n[0]));
        };
    }

    private static String text(int answer) {
        return Integer.toString(answer);
    }

    private static String ok(Runnable call) {
        call.run();
        return "ok";
    }
}
