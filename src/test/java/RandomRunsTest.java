import java.util.Random;
import java.util.function.IntSupplier;

/** Random runs of calls, each answer and each refusal set against Model's. The seed is fixed: all runs are the same. */
final class RandomRunsTest {
    private static final int RUNS = 4000;
    private static final int SET_UP_CALLS = 60;
    private static final int CALLS = 200;
    private static final int[] CAPACITIES = {-1, 0, 9, 30, 60, 100, 200, 500, 65536, 65537};
    private static final int[] FAR = {Integer.MIN_VALUE, -1, 4, 7, 8, 10, 15, 16, 17, 101, 10001, 100000, 100001, Integer.MAX_VALUE};

    private final Random random;
    private final WavePlans real;
    private final Model model;
    private final int run;
    private final int span;
    private final int longest;
    private final int goods;

    private RandomRunsTest(int run) {
        this.run = run;
        random = new Random(run);
        span = 1 + random.nextInt(25);
        longest = 1 + random.nextInt(200);
        boolean narrow = random.nextInt(3) > 0;
        int capacity = narrow ? longest / 2 + random.nextInt(2 * longest) : CAPACITIES[random.nextInt(CAPACITIES.length)];
        goods = 2 + random.nextInt(9);
        real = new WavePlans(capacity);
        model = new Model(capacity);
    }

    public static void main(String[] args) {
        for (int run = 0; run < RUNS; run++) {
            RandomRunsTest one = new RandomRunsTest(run);
            one.order(0, 0, 1);
            one.hour(0, run % 3, one.span);
            for (int call = 0; call < SET_UP_CALLS; call++) {
                one.setUp();
            }
            for (int call = 0; call < CALLS; call++) {
                one.call();
            }
            one.askAll();
        }
        Check.end();
    }

    /** Orders, lines and hours at first; without them most later calls would only be refused. */
    private void setUp() {
        int kind = random.nextInt(12);
        if (kind < 4) {
            order(near(span), near(8), 1 + near(longest));
        } else if (kind < 9) {
            line(near(1 + model.count(0)), near(goods), 1 + near(5));
        } else if (kind < 10) {
            carrier(near(16), near(2));
        } else if (kind < 11) {
            int from = near(span);
            hour(near(3), from, random.nextInt(4) == 0 ? near(span) : from + span / 2);
        } else {
            stock(near(goods), near(60));
        }
    }

    private void call() {
        int kind = random.nextInt(40);
        if (kind < 6) {
            setUp();
        } else if (kind < 11) {
            same("plan()", real::plan, model::plan);
        } else if (kind < 18) {
            change(near(16), near(span + span / 2));
        } else if (kind < 22) {
            join(someWave(), someWave());
        } else if (kind < 23) {
            cutoff(near(4), random.nextInt(8) == 0 ? near(span) : near(span) / 6);
        } else if (kind < 26) {
            release(someWave());
        } else if (kind < 30) {
            done(near(16));
        } else {
            ask(random.nextInt(5));
        }
    }

    private int someWave() {
        return random.nextInt(4) == 0 ? 1 + near(16) : model.wave(random.nextInt(model.count(0)));
    }

    private void ask(int kind) {
        switch (kind) {
            case 0 -> told(someWave(), near(7));
            case 1 -> replenish(someWave(), near(4));
            case 2 -> lacks(someWave(), near(goods));
            case 3 -> member(someWave(), near(4));
            default -> late(near(4));
        }
    }

    /** Within the 512 calls of an object: 262 random ones and 230 here. */
    private void askAll() {
        for (int what = -1; what <= 7; what++) {
            int asked = what;
            same("count(" + what + ")", () -> real.count(asked), () -> model.count(asked));
        }
        for (int i = 0; i <= 16; i++) {
            wave(i);
            late(i);
        }
        for (int wave = 0; wave <= 16; wave++) {
            for (int what = 0; what <= 6; what++) {
                told(wave, what);
            }
            member(wave, 0);
            member(wave, 1);
            replenish(wave, 0);
            lacks(wave, near(10));
        }
    }

    private int near(int n) {
        return random.nextInt(60) == 0 ? FAR[random.nextInt(FAR.length)] : random.nextInt(n);
    }

    private void order(int due, int zone, int seconds) {
        same("order(" + due + ", " + zone + ", " + seconds + ")", () -> real.order(due, zone, seconds), () -> model.order(due, zone, seconds));
    }

    private void line(int order, int good, int n) {
        same("line(" + order + ", " + good + ", " + n + ")", () -> real.line(order, good, n), () -> model.line(order, good, n));
    }

    private void carrier(int order, int carrier) {
        same("carrier(" + order + ", " + carrier + ")", () -> answered(() -> real.carrier(order, carrier)), () -> model.carrier(order, carrier));
    }

    private void hour(int carrier, int from, int to) {
        same("hour(" + carrier + ", " + from + ", " + to + ")", () -> real.hour(carrier, from, to), () -> model.hour(carrier, from, to));
    }

    private void stock(int good, int n) {
        same("stock(" + good + ", " + n + ")", () -> answered(() -> real.stock(good, n)), () -> model.stock(good, n));
    }

    private void wave(int order) {
        same("wave(" + order + ")", () -> real.wave(order), () -> model.wave(order));
    }

    private void told(int wave, int what) {
        same("told(" + wave + ", " + what + ")", () -> real.told(wave, what), () -> model.told(wave, what));
    }

    private void member(int wave, int i) {
        same("member(" + wave + ", " + i + ")", () -> real.member(wave, i), () -> model.member(wave, i));
    }

    private void replenish(int wave, int i) {
        same("replenish(" + wave + ", " + i + ")", () -> real.replenish(wave, i), () -> model.replenish(wave, i));
    }

    private void lacks(int wave, int good) {
        same("lacks(" + wave + ", " + good + ")", () -> real.lacks(wave, good), () -> model.lacks(wave, good));
    }

    private void release(int wave) {
        same("release(" + wave + ")", () -> real.release(wave), () -> model.release(wave));
    }

    private void done(int order) {
        same("done(" + order + ")", () -> real.done(order), () -> model.done(order));
    }

    private void change(int order, int due) {
        same("change(" + order + ", " + due + ")", () -> real.change(order, due) ? 1 : 0, () -> model.change(order, due));
    }

    private void join(int wave, int other) {
        same("join(" + wave + ", " + other + ")", () -> real.join(wave, other), () -> model.join(wave, other));
    }

    private void cutoff(int carrier, int time) {
        same("cutoff(" + carrier + ", " + time + ")", () -> real.cutoff(carrier, time), () -> model.cutoff(carrier, time));
    }

    private void late(int i) {
        same("late(" + i + ")", () -> real.late(i), () -> model.late(i));
    }

    private static int answered(Runnable call) {
        call.run();
        return 0;
    }

    private void same(String call, IntSupplier got, IntSupplier want) {
        String due = outcome(want);
        String answer = outcome(got);
        Check.due("run " + run + ": " + call + ": " + answer + " against " + due, answer.equals(due), true);
    }

    private static String outcome(IntSupplier call) {
        try {
            return Integer.toString(call.getAsInt());
        } catch (RuntimeException e) {
            return e.getClass().getName();
        }
    }
}
