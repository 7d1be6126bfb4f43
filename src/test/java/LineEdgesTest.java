/** Promise 3: every boundary that the document names for lines. */
final class LineEdgesTest {
    public static void main(String[] args) {
        ranges();
        notFree();
        oneOfThisGood();
        room();
        firstRefusal();
        Check.end();
    }

    private static void ranges() {
        Rows.hold("an order that there is not", """
            new 100
            line 0 0 1 ! NoSuchElementException
            order 5 0 10
            line {MIN -16 -1 1 2 15 16 17 MAX} 0 1 ! NoSuchElementException
            line 0 0 1 = 1
            15 x order 5 0 10
            line {-1 16 17} 0 1 ! NoSuchElementException
            line 15 0 1 = 1
            """);
        Rows.hold("GOODS 0 .. 9", """
            new 100
            hour 0 0 9
            order 5 0 10
            line 0 {MIN -10 -1 10 MAX} 1 ! IllegalArgumentException
            line 0 {0 9} 1 = {1 2}
            line 0 {-1 10} 1 ! IllegalArgumentException
            line 0 {1 8} 1 = {3 4}
            plan = 0
            replenish 1 {0..4} = {0 1 8 9 -1}
            """);
        Rows.hold("how many (1 .. 100)", """
            new 100
            hour 0 0 9
            order 5 0 10
            line 0 0 {MIN -100 -1 0 101 MAX} ! IllegalArgumentException
            line 0 0 1 = 1
            line 0 1 {0 101} ! IllegalArgumentException
            line 0 1 2 = 2
            line 0 2 99 = 3
            line 0 3 100 = 4
            plan = 0
            lacks 1 {0..4} = {1 2 99 100 0}
            """);
    }

    private static void notFree() {
        Rows.hold("IllegalStateException: it is not free, but in a wave", """
            new 100
            hour 0 0 9
            order 5 0 10
            plan = 0
            line 0 {0 9} {1 100} ! IllegalStateException
            lacks 1 {0 9} = 0
            """);
        Rows.hold("IllegalStateException: it is not free, but in a released wave, or done", """
            new 100
            hour 0 0 9
            2 x order 5 0 10
            plan = 10
            release 1 = 0
            line {0 1} 3 1 ! IllegalStateException
            done 0 = 1
            line {0 1} 3 1 ! IllegalStateException
            lacks 1 3 = 0
            """);
        Rows.hold("IllegalStateException: it is not free, but late", """
            new 100
            order 5 0 10
            line 0 0 1 = 1
            cutoff 0 5 = 1
            line 0 1 1 ! IllegalStateException
            """);
        Rows.hold("A line of a free order: also of one that left its wave, which has its lines still", """
            new 100
            hour 0 0 9
            order 5 0 10
            line 0 4 6 = 1
            plan = 0
            change 0 10 = true
            line 0 4 7 ! IllegalStateException
            line 0 5 8 = 2
            change 0 9 = false
            plan = 0
            lacks 2 {4 5} = {6 8}
            """);
    }

    private static void oneOfThisGood() {
        Rows.hold("IllegalStateException: it has one of this good", """
            new 100
            hour 0 0 9
            2 x order 5 0 10
            line 0 0 3 = 1
            line 0 0 {1 3 100} ! IllegalStateException
            line 1 0 4 = 1             -- another order may have one, too
            line 0 9 5 = 2
            line 0 {0 9} 5 ! IllegalStateException
            plan = 10
            lacks 1 {0 9} = {7 5}
            """);
    }

    private static void room() {
        Rows.hold("up to 4 LINES: how many it has", """
            new 100
            hour 0 0 9
            2 x order 5 0 10
            line 0 {2 3 4 5} 1 = {1 2 3 4}
            line 0 {0 1 6 7 8 9} 1 ! UnsupportedOperationException
            line 1 0 1 = 1
            plan = 10
            lacks 1 {0..9} = {1 0 1 1 1 1 0 0 0 0}
            """);
        Rows.hold("up to 4 LINES of each of 16 orders", """
            new 65536
            hour 0 0 9
            16 x order 5 0 10
            line {0..15} 6 1 = 1
            line {0..15} 7 100 = 2
            line {0..15} 8 2 = 3
            line {0..15} 9 100 = 4
            line {0..15} 0 1 ! UnsupportedOperationException
            plan = 150
            lacks 1 {5..9} = {0 16 1600 32 1600}
            """);
    }

    private static void firstRefusal() {
        Rows.hold("REFUSALS, the first that holds: no such order, then a number outside its range", """
            new 100
            order 5 0 10
            line {MIN -1 1 MAX} {MIN -1 10 MAX} 1 ! NoSuchElementException
            line {MIN -1 1 MAX} 0 {MIN 0 101 MAX} ! NoSuchElementException
            line {MIN -1 1 MAX} {MAX 10 -1 MIN} {MAX 101 0 MIN} ! NoSuchElementException
            """);
        Rows.hold("REFUSALS, the first that holds: a number outside its range, then not free", """
            new 10
            hour 0 0 9
            3 x order 5 0 10           -- each one saves all its seconds
            order 6 7 10
            plan = 20
            release 1 = 0
            done 0 = 2
            order 4 0 10
            cutoff 0 4 = 1
            line {0 1 3 4} {-1 10 MIN MAX} 1 ! IllegalArgumentException
            line {0 1 3 4} 0 {0 101 MIN MAX} ! IllegalArgumentException
            line {0 1 3 4} 0 1 ! IllegalStateException
            """);
        Rows.hold("REFUSALS, the first that holds: a number outside its range, then a line of this good", """
            new 100
            order 5 0 10
            line 0 0 1
            line 0 0 {MIN 0 101 MAX} ! IllegalArgumentException
            """);
        Rows.hold("REFUSALS, the first that holds: a number outside its range, then no room", """
            new 100
            order 5 0 10
            line 0 {0..3} 1
            line 0 {MIN -1 10 MAX} 1 ! IllegalArgumentException
            line 0 4 {MIN 0 101 MAX} ! IllegalArgumentException
            """);
        Rows.hold("REFUSALS, the first that holds: a line of this good, then no room", """
            new 100
            order 5 0 10
            line 0 {0 3 6 9} 1
            line 0 {0 3 6 9} 1 ! IllegalStateException
            """);
        Rows.hold("REFUSALS, the first that holds: not free, then no room", """
            new 100
            hour 0 0 5
            order 5 0 10
            order 6 0 10
            line 0 {0..3} 1
            line 1 {0..3} 1
            plan = 0
            cutoff 0 6 = 2
            line {0 1} 4 1 ! IllegalStateException
            new 100
            hour 0 0 5
            order 5 0 10
            line 0 {0..3} 1
            plan = 0
            line 0 4 1 ! IllegalStateException
            stock {0..3} 1
            release 1 = 0
            line 0 4 1 ! IllegalStateException
            done 0 = 0
            line 0 4 1 ! IllegalStateException
            """);
    }
}
