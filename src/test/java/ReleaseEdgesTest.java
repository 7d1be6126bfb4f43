/** Promise 13: every boundary that the document names for release. Answer 1 can't be reached, as ReleaseTest says. */
final class ReleaseEdgesTest {
    public static void main(String[] args) {
        refusals();
        released();
        lacking();
        dueTimes();
        Check.end();
    }

    private static void refusals() {
        Rows.hold("NoSuchElementException: a wave that there is not", """
            new 100
            release {MIN -1 0 1 16 17 MAX} ! NoSuchElementException
            hour 0 0 9
            order 5 0 10
            plan = 0
            release {MIN -1 0 2 3 16 17 MAX} ! NoSuchElementException
            told 1 5 = 0
            """);
        Rows.hold("NoSuchElementException: an EMPTY one", """
            new 100
            hour 0 0 9
            2 x order 5 0 10
            plan = 10
            change {0 1} 10 = true
            release 1 ! NoSuchElementException
            new 100
            hour 0 0 9
            order 5 0 10
            plan = 0
            cutoff 0 5 = 1
            release 1 ! NoSuchElementException
            new 100
            hour 0 0 9
            order 5 0 10
            plan = 0
            order 5 0 10
            plan = 0
            join 1 2 = 10
            release 2 ! NoSuchElementException
            release 1 = 0
            """);
        Rows.hold("IllegalStateException: it is released", """
            new 100
            hour 0 0 9
            2 x order 5 0 10
            plan = 10
            release 1 = 0
            release 1 ! IllegalStateException
            done 0 = 1
            release 1 ! IllegalStateException
            done 1 = 0
            release 1 ! IllegalStateException
            told 1 5 = 1
            """);
        Rows.hold("IllegalStateException: it is released, even if it would lack a good or a time now", """
            new 100
            hour 0 0 9
            2 x order 5 0 10
            line 0 0 1
            stock 0 1
            plan = 10
            release 1 = 0
            stock 0 0
            release 1 ! IllegalStateException
            change 1 10 = false
            release 1 ! IllegalStateException
            """);
    }

    private static void released() {
        Rows.hold("A planned wave is released: the first and the last of sixteen, each by itself", """
            new 15
            hour 0 0 9
            16 x order 5 0 15
            plan = 0
            release 16 = 0
            told {1 15 16} 5 = {0 0 1}
            release 1 = 0
            told {1 2 16} 5 = {1 0 1}
            """);
        Rows.hold("0: orders without lines lack nothing", """
            new 100
            hour 0 0 9
            order 5 0 10
            plan = 0
            release 1 = 0
            """);
        Rows.hold("0: nothing is taken from the stock by it", """
            new 100
            hour 0 0 9
            order 5 0 10
            line 0 0 5
            stock 0 5
            plan = 0
            release 1 = 0
            lacks 1 0 = 0
            done 0 = 0
            order 5 0 10
            line 1 0 1
            plan = 0
            lacks 2 0 = 1              -- done has taken all five
            """);
    }

    private static void lacking() {
        Rows.hold("2 it lacks a good: by one piece, and not if there are just so many", """
            new 100
            hour 0 0 9
            2 x order 5 0 10
            line {0 1} 9 {60 40}
            stock 9 99
            plan = 10
            release 1 = 2
            told 1 5 = 0
            release 1 = 2
            stock 9 100
            release 1 = 0
            told 1 5 = 1
            """);
        Rows.hold("2 it lacks a good: each one alone", """
            new 65536
            hour 0 0 9
            3 x order 5 0 10
            line 0 {0..3} 1
            line 1 {4..7} 1
            line 2 {8 9} 1
            plan = 20
            stock {1..9} 1
            release 1 = 2
            stock {0 9} {1 0}
            release 1 = 2
            stock {9 5} {1 0}
            release 1 = 2
            stock 5 1
            release 1 = 0
            """);
        Rows.hold("2 it lacks a good: what other released waves want is taken from it", """
            new 15
            hour 0 0 9
            2 x order 5 0 15
            line {0 1} 0 5
            stock 0 9
            plan = 0
            release {2 1} = {0 2}
            told {1 2} 5 = {0 1}
            stock 0 10
            release 1 = 0
            """);
        Rows.hold("and it is not: what is missing leaves a wave planned, it can be joined and left", """
            new 100
            hour 0 0 9
            order 5 0 15
            line 0 0 5
            plan = 0
            order 5 0 15
            plan = 0
            release 1 = 2
            done 0 ! IllegalStateException
            join 2 1 = 20
            change 0 10 = true
            release 2 = 0
            """);
    }

    private static void dueTimes() {
        Rows.hold("an hour of its carrier has the due time of each of its orders: the hour's first and last", """
            new 100
            hour 0 3 5
            order {3 4 5} 0 10
            plan = 20
            release 1 = 0
            """);
        Rows.hold("no hour has it: such an order has left before", """
            new 100
            hour 0 3 5
            order {3 4 5} 0 10
            plan = 20
            change {0 2} {2 6} = true
            release 1 = 0
            told 1 2 = 1
            """);
    }
}
