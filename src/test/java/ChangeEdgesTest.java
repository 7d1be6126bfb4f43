/** Promise 15: every boundary that the document names for change. */
final class ChangeEdgesTest {
    public static void main(String[] args) {
        refusals();
        firstRefusal();
        leaves();
        stays();
        Check.end();
    }

    private static void refusals() {
        Rows.hold("NoSuchElementException: an order that there is not", """
            new 100
            change {MIN -1 0 1 15 16 MAX} 5 ! NoSuchElementException
            order 5 0 10
            change {MIN -16 -1 1 2 15 16 17 MAX} 5 ! NoSuchElementException
            15 x order 5 0 10
            change {MIN -1 16 17 MAX} 5 ! NoSuchElementException
            change 15 6 = false
            cutoff 0 5 = 15
            late 15 = -1
            """);
        Rows.hold("TIMES 0 .. 100000: another due time of a free order", """
            new 100
            hour 0 0 100000
            order 5 0 10
            change 0 {MIN -100000 -1 100001 MAX} ! IllegalArgumentException
            change 0 {0 1 99999 100000} = false
            change 0 {-1 100001} ! IllegalArgumentException
            plan = 0
            told 1 3 = 100000
            """);
        Rows.hold("TIMES 0 .. 100000: another due time of one in a wave, and in a released one", """
            new 100
            hour 0 0 100000
            order 5 0 10
            plan = 0
            change 0 {MIN -1 100001 MAX} ! IllegalArgumentException
            told 1 3 = 5
            change 0 100000 = false
            told 1 3 = 100000
            change 0 0 = false
            told 1 3 = 0
            release 1 = 0
            change 0 {MIN -1 100001 MAX} ! IllegalArgumentException
            told 1 3 = 0
            change 0 100000 = false
            told 1 3 = 100000
            """);
        Rows.hold("IllegalStateException: it is late", """
            new 100
            hour 0 0 9
            order {5 10} 0 10
            plan = 0
            cutoff 0 10 = 2
            change {0 1} {0 100000} ! IllegalStateException
            change {0 1} {5 10} ! IllegalStateException
            late {0 1 2} = {0 1 -1}
            """);
        Rows.hold("IllegalStateException: it is done", """
            new 100
            hour 0 0 9
            2 x order 5 0 10
            plan = 10
            release 1 = 0
            done 0 = 1
            change 0 {0 5 9 10 100000} ! IllegalStateException
            told 1 {2 3} = {2 5}
            """);
    }

    private static void firstRefusal() {
        Rows.hold("REFUSALS, the first that holds: no such order, then a number outside its range", """
            new 100
            order 5 0 10
            change {MIN -1 1 16 MAX} {MIN -1 100001 MAX -1} ! NoSuchElementException
            """);
        Rows.hold("REFUSALS, the first that holds: a number outside its range, then late or done", """
            new 100
            hour 0 0 9
            order {5 10} 0 10
            plan = 0
            release 1 = 0
            done 0 = 0
            cutoff 0 10 = 1
            change 0 {MIN -1 100001 MAX} ! IllegalArgumentException
            change 1 {MIN -1 100001 MAX} ! IllegalArgumentException
            change {0 1} 5 ! IllegalStateException
            """);
    }

    private static void leaves() {
        Rows.hold("it does if the time does not fit its carrier: just before the hour", """
            new 100
            hour 0 10 20
            2 x order 15 0 10
            plan = 10
            change 0 10 = false
            wave 0 = 1
            change 0 9 = true
            wave {0 1} = {0 1}
            told 1 {0 1 2} = {10 0 1}
            count 2 = 1
            """);
        Rows.hold("it does if the time does not fit its carrier: just behind the hour", """
            new 100
            hour 0 10 20
            2 x order 15 0 10
            plan = 10
            change 0 20 = false
            wave 0 = 1
            change 0 21 = true
            wave {0 1} = {0 1}
            """);
        Rows.hold("it does if the time does not fit its carrier: another carrier's hour, between two hours", """
            new 100
            hour 0 {1 5} {3 7}
            hour 1 0 100000
            2 x order 2 0 10
            plan = 10
            change {0 1} {7 4} = {false true}
            change 0 8 = true
            wave {0 1} = 0
            """);
        Rows.hold("it does: the first time and the last time there is", """
            new 100
            hour 0 1 99999
            2 x order 2 0 10
            plan = 10
            change {0 1} {0 100000} = true
            told 1 0 ! NoSuchElementException
            """);
        Rows.hold("(and is free): planned again with its new time, its lines and its carrier kept", """
            new 100
            hour 2 0 9
            order 5 0 10
            carrier 0 2
            line 0 3 4
            plan = 0
            change 0 10 = true
            hour 2 10 10
            plan = 0
            wave 0 = 2
            told 2 {0..6} = {10 0 1 10 2 0 0}
            lacks 2 3 = 4
            """);
        Rows.hold("whether it left its wave by that: all sixteen leave one wave", """
            new 65536
            hour 0 0 9
            16 x order 5 0 10
            plan = 150
            change {0..15} 10 = true
            count {1 2 5} = {0 16 0}
            told 1 2 ! NoSuchElementException
            """);
    }

    private static void stays() {
        Rows.hold("whether it left its wave by that: a free one has none, whether its time fits or not", """
            new 100
            hour 0 3 5
            order 4 0 10
            change 0 {2 3 5 6} = false
            wave 0 = 0
            plan = 0
            wave 0 = 0
            """);
        Rows.hold("whether it left its wave by that: the time that it has", """
            new 100
            hour 0 5 5
            order 5 0 10
            plan = 0
            change 0 5 = false
            wave 0 = 1
            """);
        Rows.hold("it does if its wave is not released: in a released one it stays", """
            new 100
            hour 0 3 5
            2 x order 4 0 10
            plan = 10
            release 1 = 0
            change {0 1} {2 100000} = false
            wave {0 1} = 1
            told 1 {2 3} = 2
            done {0 1} = {1 0}
            """);
    }
}
