import java.util.stream.Collectors;
import java.util.stream.IntStream;

/**
 * REFUSALS, the first that holds: what there is not and what is outside its range is refused however the object
 * stands, from one with nothing in it to one in which nothing has room. What there is, is counted and told in each.
 */
final class EveryStateTest {
    private static final String NOT_THERE = " ! NoSuchElementException\n";
    private static final String NOT_IN_RANGE = " ! IllegalArgumentException\n";

    /** An object with 10 hours, fifteen waves (1 to 11 EMPTY, 12 released), orders done, late and free, and stock. */
    private static final String FIFTEEN_WAVES = "new 65536\nhour {0..3} 0 9\nhour {0..3} 20 29\nhour {0 1} 40 49\norder 5 0 10\n"
        + "plan = 0\nchange 0 10 = true\nchange 0 5 = false\n".repeat(11) + """
        change 0 10 = false            -- out of the way of the next plannings
        order {5 6} {1 2} {10 20}
        carrier {1 2} 1
        line {1 2} 3 {4 5}
        stock 3 9
        plan = 8                       -- wave 12: orders 1 and 2
        release 12 = 0
        done 1 = 1
        order {5 6} 3 30
        carrier {3 4} 2
        line 4 9 50
        plan = 10                      -- wave 13: orders 3 and 4
        order 2 7 40
        carrier 5 3
        cutoff 3 2 = 1
        order {7 8} {6 7} 50
        carrier {6 7} 3
        plan = 5                       -- wave 14: orders 6 and 7
        order 9 0 60
        carrier 8 2
        plan = 0                       -- wave 15: order 8
        order {0 9 15 9} {0 0 1 1} {10 20 30 40}
        carrier 10 1
        line 9 {0 1 2 9} {1 2 3 100}
        change 0 5 = false
        stock {0..9} {1 2 3 5 0 0 0 0 0 49}
        """;
    /** The same with wave 16 of orders 9, 0 and 12; 10 and 11 are free, but their times do not fit. */
    private static final String SIXTEEN_WAVES = FIFTEEN_WAVES + "change 10 10 = false\nplan = 15\n";

    public static void main(String[] args) {
        states();
        nothingIsPlanned();
        answersWithoutRoom();
        refusedAsItIsNow();
        Check.end();
    }

    private static void states() {
        new State("nothing", "new {-1 0 100 65536}\n", "0 0 0 0 0 0", "", "", "").holds();
        new State("an order", "new {-1 100}\norder 5 0 10\n", "1 0 1 0 0 0", "0", "", "").holds();
        String planned = "new {100 65536}\norder 5 0 10\nhour 0 0 9\nplan = 0\n";
        new State("a wave", planned, "1 1 0 0 0 0", "1", "1", "").holds();
        new State("a released wave", planned + "release 1 = 0\n", "1 1 0 0 0 0", "1", "1", "").holds();
        new State("a done order", planned + "release 1 = 0\ndone 0 = 0\n", "1 1 0 0 1 0", "1", "1", "").holds();
        new State("a late order", planned + "cutoff 0 5 = 1\n", "1 0 0 1 0 0", "-1", "", "0").holds();
        new State("an EMPTY wave", planned + "change 0 10 = true\n", "1 0 1 0 0 0", "0", "", "").holds();
        new State("ten hours", planned + "9 x hour 3 0 9\n", "1 1 0 0 0 0", "1", "1", "").holds();
        new State("two waves joined", planned + "order 5 1 10\nplan = 0\njoin 2 1 = 15\n", "2 1 0 0 0 5", "2 2", "2", "").holds();
        String all = "0 1 2 3 4 5 6 7 8 9 10 11 12 13 14 15";
        String waves = "1 2 3 4 5 6 7 8 9 10 11 12 13 14 15 16";
        String sixteen = "new 15\n16 x order 5 0 15\n";
        new State("16 orders", sixteen, "16 0 16 0 0 0", all.replaceAll("\\d+", "0"), "", "").holds();
        new State("16 late orders", sixteen + "cutoff 0 5 = 16\n", "16 0 0 16 0 0", all.replaceAll("\\d+", "-1"), "", all).holds();
        sixteen += "hour 0 0 9\nplan = 0\n";
        new State("16 waves", sixteen, "16 16 0 0 0 0", waves, waves, "").holds();
        sixteen += "release {1..16} = 0\ndone {0..15} = 0\n";
        new State("16 done orders", sixteen, "16 16 0 0 16 0", waves, waves, "").holds();
        new State("of all something", FIFTEEN_WAVES, "13 4 5 1 1 23", "0 12 12 13 13 -1 14 14 15 0 0 0 0", "12 13 14 15", "5").holds();
        new State("of all something, and 16 waves", SIXTEEN_WAVES, "13 5 2 1 1 38",
            "16 12 12 13 13 -1 14 14 15 16 0 0 16", "12 13 14 15 16", "5").holds();
    }

    /** How an object stands: count's answers for 0 to 5, the waves of its orders, the waves there are, late orders. */
    private record State(String name, String rows, String counts, String places, String waves, String late) {
        void holds() {
            Rows.holdProbedAtTheEnd("What there is, with " + name, rows + "count {0..5} = {" + counts + "}\ncount {MIN -1 7 MAX} = -1\n" + whereOrdersAre());
            Rows.holdProbedAtTheEnd("REFUSALS: a number outside its range, with " + name, rows + """
                order {MIN -1 100001 MAX} 0 10 ! IllegalArgumentException
                order 5 {MIN -1 8 MAX} 10 ! IllegalArgumentException
                order 5 0 {MIN 0 10001 MAX} ! IllegalArgumentException
                hour {MIN -1 4 MAX} 0 9 ! IllegalArgumentException
                hour 0 {MIN -1 10 100001 MAX} {9 9 9 100001 MAX} ! IllegalArgumentException
                hour 0 0 {MIN -1 100001 MAX} ! IllegalArgumentException
                stock {MIN -1 10 MAX} 5 ! IllegalArgumentException
                stock 0 {MIN -1 10001 MAX} ! IllegalArgumentException
                cutoff {MIN -1 4 MAX} 9 ! IllegalArgumentException
                cutoff 0 {MIN -1 100001 MAX} ! IllegalArgumentException
                late {MIN -1} ! IllegalArgumentException
                """ + whereOrdersAre());
            Rows.holdProbedAtTheEnd("REFUSALS: no such order, then a number outside its range, with " + name, rows + ordersNotThere() + ordersThere());
            Rows.holdProbedAtTheEnd("REFUSALS: no such wave, then a number outside its range, with " + name, rows + wavesNotThere() + wavesThere());
        }

        private int orders() {
            return words(places).length;
        }

        private String whereOrdersAre() {
            String asked = orders() == 0 ? "" : "wave {0.." + (orders() - 1) + "} = {" + places + "}\n";
            int lateOnes = words(late).length;
            return asked + "late {0.." + lateOnes + "} = {" + late + " -1}\nlate MAX = -1\n";
        }

        private String ordersNotThere() {
            String wrong = "{MIN -1 " + orders() + " 16 17 MAX}";
            return "line " + wrong + " 0 1" + NOT_THERE + "line " + wrong + " -1 0" + NOT_THERE
                + "carrier " + wrong + " 0" + NOT_THERE + "carrier " + wrong + " 4" + NOT_THERE
                + "change " + wrong + " 0" + NOT_THERE + "change " + wrong + " -1" + NOT_THERE
                + "wave " + wrong + NOT_THERE + "done " + wrong + NOT_THERE;
        }

        private String ordersThere() {
            return IntStream.range(0, orders()).filter(o -> o < 6 || o > 13).mapToObj(o -> "line " + o + " {MIN -1 10 MAX} 1" + NOT_IN_RANGE
                + "line " + o + " 0 {MIN 0 101 MAX}" + NOT_IN_RANGE + "carrier " + o + " {MIN -1 4 MAX}" + NOT_IN_RANGE
                + "change " + o + " {MIN -1 100001 MAX}" + NOT_IN_RANGE).collect(Collectors.joining());
        }

        private String wavesNotThere() {
            String wrong = "{MIN -1 0 17 MAX " + IntStream.rangeClosed(1, 16).mapToObj(Integer::toString)
                .filter(w -> !(" " + waves + " ").contains(" " + w + " ")).collect(Collectors.joining(" ")) + "}";
            String rows = "release " + wrong + NOT_THERE + "told " + wrong + " 2" + NOT_THERE + "told " + wrong + " 7" + NOT_THERE
                + "member " + wrong + " 0" + NOT_THERE + "replenish " + wrong + " 0" + NOT_THERE + "replenish " + wrong + " -1" + NOT_THERE
                + "lacks " + wrong + " 0" + NOT_THERE + "lacks " + wrong + " 10" + NOT_THERE;
            String there = words(waves).length == 0 ? "1" : words(waves)[0];
            return rows + "join " + wrong + " " + there + NOT_THERE + "join " + there + " " + wrong + NOT_THERE;
        }

        private String wavesThere() {
            StringBuilder rows = new StringBuilder();
            for (String w : words(waves)) {
                rows.append("told ").append(w).append(" {MIN -1 7 MAX}").append(NOT_IN_RANGE);
                rows.append("lacks ").append(w).append(" {MIN -1 10 MAX}").append(NOT_IN_RANGE);
                rows.append("replenish ").append(w).append(" {MIN -1}").append(NOT_IN_RANGE);
                rows.append("member ").append(w).append(" {MIN -1 16 MAX}").append(NOT_THERE);
                rows.append("join ").append(w).append(' ').append(w).append(" ! IllegalStateException\n");
            }
            return rows.toString();
        }

        private static String[] words(String text) {
            return text.isEmpty() ? new String[0] : text.split(" ");
        }
    }

    private static void nothingIsPlanned() {
        Rows.hold("nothing is planned: there would be more than 16 waves, with something of all there", FIFTEEN_WAVES + """
            plan ! UnsupportedOperationException
            wave {0..12} = {0 12 12 13 13 -1 14 14 15 0 0 0 0}
            told 16 2 ! NoSuchElementException
            count {0..6} = {13 4 5 1 1 23 65536}
            cutoff 1 9 = 1             -- order 10; orders 9, 0 and 12 have room for a wave of carrier 0
            plan = 15
            wave {0 9 10 12} = {16 16 -1 16}
            """);
        Rows.hold("nothing is planned: all 16 are used", SIXTEEN_WAVES + """
            told 16 {0..6} = {45 15 3 0 0 0 0}
            member 16 {0 1 2} = {9 0 12}
            plan = 0
            change 10 9 = false
            plan ! UnsupportedOperationException
            wave {10 11} = 0
            """);
    }

    private static void answersWithoutRoom() {
        Rows.hold("with 16 waves used: orders and lines have room", SIXTEEN_WAVES + """
            order {0 5 100000} {0 3 7} {1 10 10000} = {13 14 15}
            order 5 0 10 ! UnsupportedOperationException
            line 15 {9 5 6 0} {100 7 8 1} = {1 2 3 4}
            line 15 9 1 ! IllegalStateException
            line 15 1 1 ! UnsupportedOperationException
            carrier {13 14 15} {1 2 3}
            hour {0..3} 0 9 ! UnsupportedOperationException
            cutoff {2 3} {4 99999} = {0 2}
            cutoff {1 2 3} {0 5 100000} = {1 2 1}
            late {0..6} = {3 5 6 7 13 14 15}
            """);
        Rows.hold("with 16 waves used: questions, releases, joins and work", SIXTEEN_WAVES + """
            lacks 16 {0..9} = {0 0 0 0 0 0 0 0 0 51}
            replenish {12 13 14 15 16} 0 = {-1 9 -1 -1 9}
            release {13 14 16} = {2 0 2}
            stock 9 150
            join 13 15 = 110
            release {13 16} = 0
            lacks {13 16} 9 = 0
            done {0 4 9} = {2 2 1}
            stock 9 0
            replenish {12 13 14 16} 0 = -1
            told 12 {0..6} = {22 8 2 5 1 1 1}
            told 13 {0..6} = {110 10 3 5 2 1 1}
            told 14 {0..6} = {95 5 2 7 3 1 0}
            told 16 {0..6} = {45 15 3 0 0 1 2}
            count {0..6} = {13 4 2 1 4 38 65536}
            """);
        Rows.hold("with 16 waves used: orders leave, and waves are EMPTY", SIXTEEN_WAVES + """
            change {2 8 3 9} {100000 19 30 9} = {false true true false}
            wave {2 3 8 9} = {12 0 0 16}
            told {13 16} 3 = {6 5}
            cutoff {0 3} 9 = {3 2}
            count {0..6} = {13 2 4 6 1 8 65536}
            told {14 15 16} 2 ! NoSuchElementException
            """);
    }

    private static void refusedAsItIsNow() {
        Rows.hold("REFUSALS: not as it is now, with something of all there", SIXTEEN_WAVES + """
            line {1 2 3 5 8 9} {0 0 0 0 0 3} 1 ! IllegalStateException
            carrier {1 2 3 5 8 9} 1 ! IllegalStateException
            release 12 ! IllegalStateException
            done {0 1 3 5 10} ! IllegalStateException
            change {1 5} 5 ! IllegalStateException
            join {12 13 13 14} {13 12 14 15} ! IllegalStateException
            join {16 12} {16 12} ! IllegalStateException
            release 15 = 0
            join {13 15} {15 13} ! IllegalStateException
            """);
        Rows.hold("REFUSALS: not as it is now, with one order", """
            new 100
            hour 0 0 9
            order 5 0 10
            done 0 ! IllegalStateException
            plan = 0
            line 0 0 1 ! IllegalStateException
            carrier 0 1 ! IllegalStateException
            done 0 ! IllegalStateException
            join 1 1 ! IllegalStateException
            release 1 = 0
            release 1 ! IllegalStateException
            join 1 1 ! IllegalStateException
            done 0 = 0
            done 0 ! IllegalStateException
            change 0 5 ! IllegalStateException
            new 100
            order 5 0 10
            cutoff 0 4 = 0
            late 0 = -1
            cutoff 0 5 = 1
            late {0 1} = {0 -1}
            change 0 6 ! IllegalStateException
            10 x hour 0 0 9
            hour 0 0 9 ! UnsupportedOperationException
            """);
    }
}
