import java.util.StringJoiner;

/**
 * Ways to find out what an object holds, by its calls alone. What free orders, hours and stock are like shows only in
 * later calls, and those change the object: so each way is gone with an object of its own.
 */
enum Probe {
    LINES {
        @Override
        void ask(Asker a) {
            a.look();
            for (int order = 0; order < a.orders(); order++) {
                for (int good = 0; good < 10; good++) {
                    a.call("line", order, good, 7);
                }
            }
        }
    },
    PLANNING {
        @Override
        void ask(Asker a) {
            a.call("plan");
            a.look();
        }
    },
    HOURS {
        @Override
        void ask(Asker a) {
            for (int carrier = 0; carrier < 4; carrier++) {
                a.call("hour", carrier, 0, 100000);
            }
            a.call("plan");
            a.look();
        }
    },
    STOCK {
        @Override
        void ask(Asker a) {
            a.call("hour", 3, 0, 100000);
            for (int good = 0; good < 10; good++) {
                if (good % 4 == 0) {
                    a.call("order", 0, 0, 1);
                    a.call("carrier", a.orders() - 1, 3);
                }
                a.call("line", a.orders() - 1, good, 100);
            }
            a.call("plan");
            a.look();
        }
    },
    CUT_OFFS {
        @Override
        void ask(Asker a) {
            for (int carrier = 0; carrier < 4; carrier++) {
                for (int time = 0; time <= 22; time++) {
                    a.call("cutoff", carrier, time);
                }
                a.call("cutoff", carrier, 99999);
                a.call("cutoff", carrier, 100000);
            }
            a.look();
        }
    },
    WORK {
        @Override
        void ask(Asker a) {
            for (int wave = 1; wave <= 16; wave++) {
                a.call("release", wave);
            }
            for (int order = 0; order < a.orders(); order++) {
                a.call("done", order);
            }
            a.look();
        }
    },
    CHANGES {
        @Override
        void ask(Asker a) {
            for (int order = 0; order < a.orders(); order++) {
                a.call("change", order, 100000 - order);
            }
            a.look();
        }
    },
    JOINS {
        @Override
        void ask(Asker a) {
            for (int wave = 1; wave <= 4; wave++) {
                for (int other = 4; other >= 1; other--) {
                    a.call("join", wave, other);
                }
            }
            a.look();
        }
    };

    abstract void ask(Asker a);

    /** All answers, a line each, of at most so many calls. */
    String answers(Plans x, int calls) {
        Asker a = new Asker(x, calls);
        ask(a);
        return a.answers.toString();
    }

    static final class Asker {
        private final StringJoiner answers = new StringJoiner("\n");
        private final Plans x;
        private int left;

        private Asker(Plans x, int calls) {
            this.x = x;
            left = calls;
        }

        String call(String name, int... n) {
            if (left == 0) {
                return "";
            }
            left--;
            String answer = x.call(name, n);
            StringJoiner told = new StringJoiner(" ");
            told.add(name);
            for (int number : n) {
                told.add(Integer.toString(number));
            }
            answers.add(told + " = " + answer);
            return answer;
        }

        int orders() {
            String orders = call("count", 0);
            return orders.isEmpty() ? 0 : Integer.parseInt(orders);
        }

        void look() {
            for (int what = 0; what <= 6; what++) {
                call("count", what);
            }
            int orders = orders();
            for (int order = 0; order < orders; order++) {
                call("wave", order);
            }
            for (int i = 0; !end(call("late", i)); i++) {
                continue;
            }
            for (int wave = 1; wave <= 16; wave++) {
                lookAt(wave);
            }
        }

        private void lookAt(int wave) {
            if (end(call("told", wave, 2))) {
                return;
            }
            for (int what : new int[] {0, 1, 3, 4, 5, 6}) {
                call("told", wave, what);
            }
            for (int i = 0; !end(call("member", wave, i)); i++) {
                continue;
            }
            String good = call("replenish", wave, 0);
            for (int i = 1; !end(good); i++) {
                call("lacks", wave, Integer.parseInt(good));
                good = call("replenish", wave, i);
            }
        }

        private static boolean end(String answer) {
            return answer.isEmpty() || answer.equals("-1") || answer.endsWith("Exception");
        }
    }
}
