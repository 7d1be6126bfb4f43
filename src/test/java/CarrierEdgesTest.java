/** Promise 4: every boundary that the document names for an order's carrier. */
final class CarrierEdgesTest {
    public static void main(String[] args) {
        Rows.hold("an order that there is not", """
            new 100
            carrier 0 0 ! NoSuchElementException
            order 5 0 10
            carrier {MIN -16 -1 1 2 15 16 17 MAX} 1 ! NoSuchElementException
            15 x order 5 0 10
            carrier {-1 16 17} 1 ! NoSuchElementException
            carrier 15 1
            hour {0 1} 5 5
            plan
            wave {14 15} = {1 2}
            """);
        Rows.hold("CARRIERS 0 .. 3", """
            new 100
            hour {0..3} 0 9
            2 x order 5 0 10
            carrier 0 {MIN -4 -1 4 MAX} ! IllegalArgumentException
            carrier 0 3
            carrier 1 {-1 4} ! IllegalArgumentException
            plan = 0
            told {1 2} 4 = {3 0}
            """);
        Rows.hold("The carrier of a free order: each one, the one it has, and the first one again", """
            new 100
            hour {0..3} 0 9
            4 x order 5 0 10
            carrier 0 {3 3 2 1 0}
            carrier {1 2 3} {1 2 3}
            plan = 0
            told {1..4} 4 = {0 1 2 3}
            """);
        Rows.hold("The carrier of a free order: also of one that left its wave", """
            new 100
            hour {0 2} 0 9
            order 5 0 10
            plan = 0
            change 0 10 = true
            carrier 0 2
            change 0 9 = false
            plan = 0
            told 2 4 = 2
            """);
        notFree();
        firstRefusal();
        Check.end();
    }

    private static void notFree() {
        Rows.hold("IllegalStateException: it is in a wave", """
            new 100
            hour {0..3} 0 9
            order 5 0 10
            plan = 0
            carrier 0 {0..3} ! IllegalStateException
            told 1 4 = 0
            """);
        Rows.hold("IllegalStateException: it is in a released wave, or done", """
            new 100
            hour {0..3} 0 9
            2 x order 5 0 10
            plan = 10
            release 1 = 0
            carrier {0 1} {0 3} ! IllegalStateException
            done 1 = 1
            carrier {0 1} {3 0} ! IllegalStateException
            told 1 4 = 0
            """);
        Rows.hold("IllegalStateException: it is late", """
            new 100
            order 5 0 10
            cutoff 0 5 = 1
            carrier 0 {0..3} ! IllegalStateException
            cutoff {0..3} 9 = 0
            """);
    }

    private static void firstRefusal() {
        Rows.hold("REFUSALS, the first that holds: no such order, then a number outside its range", """
            new 100
            order 5 0 10
            carrier {MIN -1 1 MAX} {MIN -1 4 MAX} ! NoSuchElementException
            """);
        Rows.hold("REFUSALS, the first that holds: a number outside its range, then not free", """
            new 100
            hour 0 0 5
            order {5 6} 0 10
            plan = 0
            cutoff 0 5 = 1
            order 5 0 10
            plan = 0
            carrier {0 2} {-1 4} ! IllegalArgumentException
            carrier {0 2} {MIN MAX} ! IllegalArgumentException
            release 2 = 0
            carrier 2 {-1 4} ! IllegalArgumentException
            done 2 = 0
            carrier 2 {-1 4} ! IllegalArgumentException
            """);
    }
}
