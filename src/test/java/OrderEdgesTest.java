/** Promise 2: every boundary that the document names for orders. */
final class OrderEdgesTest {
    public static void main(String[] args) {
        ranges();
        room();
        firstRefusal();
        asItComes();
        Check.end();
    }

    private static void ranges() {
        Rows.hold("TIMES 0 .. 100000: the due time of an order", """
            new 15
            hour 0 0 100000
            order {MIN -100000 -1 100001 MAX} 0 15 ! IllegalArgumentException
            count 0 = 0
            order {0 1 99999 100000} 0 15 = {0 1 2 3}
            order {-1 100001} 0 15 ! IllegalArgumentException
            count 0 = 4
            plan = 0
            told {1..4} 3 = {0 1 99999 100000}
            """);
        Rows.hold("ZONES 0 .. 7: the zone of an order", """
            new 65536
            hour 0 0 9
            order 5 {MIN -8 -1 8 MAX} 100 ! IllegalArgumentException
            count 0 = 0
            order 5 {0 7} 100 = {0 1}
            order 5 {-1 8} 100 ! IllegalArgumentException
            plan = 0
            order 5 {7 6 0 1} 100 = {2 3 4 5}
            plan = 10                  -- 5 for 7 and 6, 5 for 0 and 1
            """);
        Rows.hold("seconds 1 .. 10000", """
            new 65536
            hour {0..3} 0 9
            order 5 0 {MIN -10000 -1 0 10001 MAX} ! IllegalArgumentException
            count 0 = 0
            order 5 0 {1 2 9999 10000} = {0 1 2 3}
            order 5 0 {0 10001} ! IllegalArgumentException
            count 0 = 4
            carrier {1 2 3} {1 2 3}
            plan = 0
            told {1..4} 0 = {1 2 9999 10000}
            """);
        Rows.hold("another number outside its range: two or all of them at once", """
            new 100
            order {MIN -1 100001 MAX} {MAX 8 -1 MIN} 10 ! IllegalArgumentException
            order {MIN -1 100001 MAX} 0 {MIN 0 10001 MAX} ! IllegalArgumentException
            order 5 {MIN -1 8 MAX} {MAX 0 10001 MIN} ! IllegalArgumentException
            order {MIN -1 100001 MAX} {MIN -1 8 MAX} {MIN 0 10001 MAX} ! IllegalArgumentException
            count {0 2} = 0
            """);
    }

    private static void room() {
        Rows.hold("ORDERS at most 16: all free", """
            new 100
            15 x order 5 0 10
            order 5 0 10 = 15
            order 5 0 10 ! UnsupportedOperationException
            order 0 7 10000 ! UnsupportedOperationException
            count {0 2} = 16
            wave 15 = 0
            wave 16 ! NoSuchElementException
            """);
        Rows.hold("ORDERS at most 16: those that are late count", """
            new 100
            16 x order 5 0 10
            cutoff 0 5 = 16
            order 6 0 10 ! UnsupportedOperationException
            count {0 2 3} = {16 0 16}
            """);
        Rows.hold("ORDERS at most 16: those in waves and those that are done count", """
            new 65536
            hour 0 0 9
            8 x order 5 0 10
            plan = 70
            release 1 = 0
            done 0 = 7
            8 x order 5 0 10
            plan = 70
            order 5 0 10 ! UnsupportedOperationException
            count {0 1 2 3 4} = {16 2 0 0 1}
            """);
    }

    private static void firstRefusal() {
        Rows.hold("REFUSALS, the first that holds: a number outside its range, then no room", """
            new 100
            16 x order 5 0 10
            order {MIN -1 100001 MAX} 0 10 ! IllegalArgumentException
            order 5 {MIN -1 8 MAX} 10 ! IllegalArgumentException
            order 5 0 {MIN 0 10001 MAX} ! IllegalArgumentException
            order {0 100000} {0 7} {1 10000} ! UnsupportedOperationException
            count 0 = 16
            """);
    }

    private static void asItComes() {
        Rows.hold("ORDERS 0, 1, .. as they come: its number", """
            new 100
            order 9 0 10 = 0
            order 8 7 5 = 1
            cutoff 0 8 = 1
            order 7 3 1 = 2            -- a late one keeps its number
            order 100001 0 10 ! IllegalArgumentException
            order 6 3 1 = 3            -- a refused one takes none
            late 0 = 1
            """);
        Rows.hold("An order is FREE, with a carrier (0 at first), without lines", """
            new 100
            hour {0..3} 0 9
            order 5 0 10
            wave 0 = 0
            count 2 = 1
            plan
            told 1 {4 6} = 0
            replenish 1 0 = -1
            lacks 1 {0..9} = 0
            """);
    }
}
