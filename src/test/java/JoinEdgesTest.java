/** Promise 16: every boundary that the document names for join. */
final class JoinEdgesTest {
    /** Two waves of 30 seconds, in zones 0 and 7, that were planned one after the other. */
    private static final String TWO_WAVES = """
        hour 0 0 9
        order 5 0 30
        plan = 0
        order 4 7 30
        plan = 0
        """;

    public static void main(String[] args) {
        notThere();
        notAsItIsNow();
        moreSeconds();
        firstRefusal();
        joined();
        Check.end();
    }

    private static void notThere() {
        Rows.hold("NoSuchElementException: the first, the second or both are not there", "new 1000\n" + TWO_WAVES + """
            join {MIN -1 0 3 4 16 17 MAX} 1 ! NoSuchElementException
            join 1 {MIN -1 0 3 4 16 17 MAX} ! NoSuchElementException
            join {MIN -1 0 3 MAX} {3 0 MIN MAX -1} ! NoSuchElementException
            count 1 = 2
            """);
        Rows.hold("NoSuchElementException: an EMPTY one, as the first and as the second", "new 1000\n" + TWO_WAVES + """
            cutoff 0 4 = 1
            join {1 2} {2 1} ! NoSuchElementException
            wave {0 1} = {1 -1}
            """);
        Rows.hold("NoSuchElementException: one that is EMPTY by joining", "new 1000\n" + TWO_WAVES + """
            join 2 1 = 60
            join {1 2} {2 1} ! NoSuchElementException
            told 2 2 = 2
            """);
    }

    private static void notAsItIsNow() {
        Rows.hold("IllegalStateException: the same", "new 1000\n" + TWO_WAVES + """
            join {1 2} {1 2} ! IllegalStateException
            told {1 2} 2 = 1
            """);
        Rows.hold("IllegalStateException: the same, within the capacity twice", """
            new 10
            hour 0 0 9
            order 5 0 5
            plan = 0
            join 1 1 ! IllegalStateException
            told 1 {0 1 2} = {5 0 1}
            """);
        Rows.hold("IllegalStateException: one is released, the first", "new 1000\n" + TWO_WAVES + """
            release 1 = 0
            join 1 2 ! IllegalStateException
            wave {0 1} = {1 2}
            told {1 2} 5 = {1 0}
            """);
        Rows.hold("IllegalStateException: one is released, the second", "new 1000\n" + TWO_WAVES + """
            release 2 = 0
            join 1 2 ! IllegalStateException
            wave {0 1} = {1 2}
            told {1 2} 5 = {0 1}
            """);
        Rows.hold("IllegalStateException: both are released, and done", "new 1000\n" + TWO_WAVES + """
            release {1 2} = 0
            join {1 2} {2 1} ! IllegalStateException
            done {0 1} = 0
            join {1 2} {2 1} ! IllegalStateException
            """);
        Rows.hold("IllegalStateException: the same, and released", "new 1000\n" + TWO_WAVES + """
            release 1 = 0
            join 1 1 ! IllegalStateException
            """);
        Rows.hold("IllegalStateException: they have different carriers", """
            new 1000
            hour {0 3} 0 9
            2 x order 5 0 30
            carrier 1 3
            plan = 0
            join {1 2} {2 1} ! IllegalStateException
            wave {0 1} = {1 2}
            told {1 2} 4 = {0 3}
            """);
    }

    private static void moreSeconds() {
        Rows.hold("more seconds than the capacity: just so many", "new 60\n" + TWO_WAVES + """
            join 1 2 = 60
            told 1 {0 1 2 3} = {60 0 2 4}
            """);
        Rows.hold("more seconds than the capacity: one too many", "new 59\n" + TWO_WAVES + """
            join {1 2} {2 1} ! IllegalStateException
            wave {0 1} = {1 2}
            told {1 2} {0 2} = {30 1}
            """);
        Rows.hold("more seconds than the capacity: what they save together is counted, just so many", """
            new 80
            hour 0 0 9
            order 5 0 45
            plan = 0
            order 5 0 45
            plan = 0
            join 1 2 = 80
            told 1 {0 1} = {80 10}
            """);
        Rows.hold("more seconds than the capacity: what they save together is counted, one too many", """
            new 79
            hour 0 0 9
            order 5 0 45
            plan = 0
            order 5 0 45
            plan = 0
            join {1 2} {2 1} ! IllegalStateException
            told {1 2} 0 = 45
            """);
        Rows.hold("more seconds than the capacity: just 65536 of sixteen orders, one too many of them", """
            new 65536
            hour 0 0 9
            8 x order 5 0 4100
            plan = 70
            7 x order 5 7 4100
            order 5 7 4176
            plan = 70
            join 1 2 = 65536
            new 65536
            hour 0 0 9
            8 x order 5 0 4100
            plan = 70
            7 x order 5 7 4100
            order 5 7 4177
            plan = 70
            join {1 2} {2 1} ! IllegalStateException
            told {1 2} 0 = {32730 32807}
            """);
    }

    private static void firstRefusal() {
        Rows.hold("REFUSALS, the first that holds: no such wave, then the same", "new 1000\n" + TWO_WAVES + """
            join {MIN -1 0 3 17 MAX} {MIN -1 0 3 17 MAX} ! NoSuchElementException
            change 0 10 = true
            join 1 1 ! NoSuchElementException
            """);
        Rows.hold("REFUSALS, the first that holds: no such wave, then one is released", "new 1000\n" + TWO_WAVES + """
            release 1 = 0
            join 1 {MIN -1 0 3 17 MAX} ! NoSuchElementException
            join {MIN -1 0 3 17 MAX} 1 ! NoSuchElementException
            cutoff 0 5 = 1
            join {1 2} {2 1} ! NoSuchElementException
            """);
    }

    private static void joined() {
        Rows.hold("become one, the second one's orders behind the first one's", """
            new 1000
            hour 0 0 9
            order {3 4} 0 30
            plan = 10
            order {2 1} 1 30
            plan = 10
            join 1 2 = 95              -- 10, 5 and 10 saved
            member 1 {0..3} = {0 1 3 2}
            wave {0..3} = 1
            told 1 {0..6} = {95 25 4 1 0 0 0}
            count {1 5} = {1 25}
            """);
        Rows.hold("become one: the second before the first", """
            new 1000
            hour 0 0 9
            order {3 4} 0 30
            plan = 10
            order {2 1} 1 30
            plan = 10
            join 2 1 = 95
            member 2 {0..3} = {3 2 0 1}
            wave {0..3} = 2
            told 2 {0..6} = {95 25 4 1 0 0 0}
            """);
        Rows.hold("the seconds it has: the savings are those of the orders as they stand now", """
            new 1000
            hour 0 0 9
            order {1 2} {0 2} 50
            plan = 0
            order 3 1 50
            plan = 0
            join 1 2 = 145             -- 0 and 2 save nothing, 1 saves 5 behind them
            new 1000
            hour 0 0 9
            order {1 2} {0 2} 50
            plan = 0
            order 3 1 50
            plan = 0
            join 2 1 = 140             -- 0 and 2 save 5 each behind 1
            """);
        Rows.hold("become one: the number of the second is not given again", "new 1000\n" + TWO_WAVES + """
            join 1 2 = 60
            order 5 3 30
            plan = 0
            wave {0 1 2} = {1 1 3}
            told 2 0 ! NoSuchElementException
            """);
        Rows.hold("Two waves become one: orders of a third, free ones and those that left the second stay where they are", """
            new 1000
            hour 0 0 9
            order 5 0 30
            plan = 0
            order 5 3 30
            plan = 0
            order {5 6 7} 5 30
            plan = 20
            order 10 0 30
            change 4 10 = true
            cutoff 0 4 = 0
            join 2 3 = 80
            wave {0..5} = {1 2 2 2 0 0}
            told {1 2} 2 = {1 3}
            change 0 10 = true
            wave {0..5} = {0 2 2 2 0 0}
            """);
        StringBuilder sixteen = new StringBuilder("new 10\nhour 0 0 9\n" + "order 5 0 10\nplan = 0\n".repeat(16));
        for (int wave = 15; wave >= 1; wave--) {
            sixteen.append("join 16 ").append(wave).append(" = 10\n");
        }
        Rows.hold("become one: sixteen waves, all but the first one's seconds saved", sixteen + """
            told 16 {0..6} = {10 150 16 5 0 0 0}
            member 16 {0..15} = {15 14 13 12 11 10 9 8 7 6 5 4 3 2 1 0}
            told {1..15} 2 ! NoSuchElementException
            count {1 5} = {1 150}
            """);
        Rows.hold("waves that became one are released, left and joined as one", "new 1000\n" + TWO_WAVES + """
            order 5 1 30
            plan = 0
            join 1 2 = 60
            join 3 1 = 85              -- 5 for zones 1 and 0
            member 3 {0 1 2} = {2 0 1}
            change 2 10 = true
            told 3 {0 1 2 3} = {60 0 2 4}
            release 3 = 0
            done {0 1} = {1 0}
            """);
    }
}
