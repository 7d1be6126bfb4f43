/** Promise 9, and the terms of waves: every boundary that the document names. */
final class ToldEdgesTest {
    public static void main(String[] args) {
        notThere();
        empty();
        what();
        dueTime();
        counts();
        Check.end();
    }

    private static void notThere() {
        Rows.hold("NoSuchElementException: a wave that there is not", """
            new 100
            told {MIN -1 0 1 2 16 17 MAX} 0 ! NoSuchElementException
            hour 0 0 9
            order 5 0 10
            plan = 0
            told 1 2 = 1
            told {MIN -1 0 2 3 15 16 17 MAX} 2 ! NoSuchElementException
            """);
        Rows.hold("NoSuchElementException: before the first and behind the last of sixteen", """
            new 15
            hour 0 0 9
            16 x order 5 0 15
            plan = 0
            told {1 16} 2 = 1
            told {MIN -1 0 17 18 MAX} 2 ! NoSuchElementException
            """);
    }

    private static void empty() {
        Rows.hold("an EMPTY one is not: its last order has another due time", """
            new 100
            hour 0 0 9
            2 x order 5 0 10
            plan = 10
            change 0 10 = true
            told 1 {0 1 2} = {10 0 1}  -- one is left
            change 1 10 = true
            told 1 {0..6} ! NoSuchElementException
            count 1 = 0
            """);
        Rows.hold("an EMPTY one is not: all its orders are late", """
            new 100
            hour 0 0 9
            2 x order 5 0 10
            plan = 10
            cutoff 0 5 = 2
            told 1 {0..6} ! NoSuchElementException
            count 1 = 0
            """);
        Rows.hold("an EMPTY one is not: its orders are another wave's", """
            new 100
            hour 0 0 9
            order 5 0 10
            plan = 0
            order 5 0 10
            plan = 0
            join 1 2 = 10
            told 2 {0..6} ! NoSuchElementException
            told 1 {0 1 2} = {10 10 2}
            count 1 = 1
            """);
        Rows.hold("an EMPTY one is not: for every call that names a wave", """
            new 100
            hour 0 0 9
            order 5 0 10
            plan = 0
            order 5 0 10
            plan = 0
            change 0 10 = true
            told 1 0 ! NoSuchElementException
            member 1 0 ! NoSuchElementException
            replenish 1 0 ! NoSuchElementException
            lacks 1 0 ! NoSuchElementException
            release 1 ! NoSuchElementException
            join {1 2 1} {2 1 1} ! NoSuchElementException
            """);
        Rows.hold("a wave from which all orders went stays EMPTY: they come into another one", """
            new 100
            hour 0 0 9
            order 5 0 10
            plan = 0
            change 0 10 = true
            change 0 5 = false
            plan = 0
            wave 0 = 2
            told 1 2 ! NoSuchElementException
            """);
        Rows.hold("a released wave whose orders are all done is not EMPTY", """
            new 100
            hour 0 0 9
            order 5 0 10
            plan = 0
            release 1 = 0
            done 0 = 0
            told 1 {0..6} = {10 0 1 5 0 1 1}
            count 1 = 1
            """);
    }

    private static void what() {
        Rows.hold("IllegalArgumentException: below 0, above 6", """
            new 100
            hour 3 0 9
            2 x order 5 0 50
            carrier {0 1} 3
            plan = 10
            told 1 {MIN -7 -1 7 8 MAX} ! IllegalArgumentException
            told 1 {0..6} = {90 10 2 5 3 0 0}
            """);
        Rows.hold("REFUSALS, the first that holds: no such wave, then a number outside its range", """
            new 100
            hour 0 0 9
            2 x order 5 0 10
            plan = 10
            told {MIN -1 0 2 16 17 MAX} {MIN -1 7 8 -1 7 MAX} ! NoSuchElementException
            cutoff 0 9 = 2
            told 1 {MIN -1 7 MAX} ! NoSuchElementException
            """);
    }

    private static void dueTime() {
        Rows.hold("A wave's due time is the least one of its orders: the first time, the last time", """
            new 65536
            hour 0 0 100000
            hour 1 100000 100000
            order {100000 0 100000 100000} 0 10
            carrier {2 3} 1
            plan = 20
            told {1 2} 3 = {0 100000}
            """);
        Rows.hold("A wave's due time is the least one of its orders: as they change, leave, are joined and done", """
            new 65536
            hour 0 1 10
            order {5 7 9} 0 10
            plan = 20
            told 1 3 = 5
            change 2 1 = false
            told 1 3 = 1
            change 2 10 = false
            told 1 3 = 5
            change 0 11 = true
            told 1 3 = 7
            change 0 3 = false
            plan = 0
            join 1 2 = 10
            told 1 3 = 3
            release 1 = 0
            done 0 = 2
            told 1 3 = 3               -- a done one is one of its orders
            change 1 0 = false
            told 1 3 = 0               -- a released wave keeps one that does not fit
            """);
    }

    private static void counts() {
        Rows.hold("its orders, whether it is released, orders that are done: none, some, all", """
            new 65536
            hour 0 0 9
            3 x order 5 0 10
            plan = 20
            told 1 {2 5 6} = {3 0 0}
            release 1 = 0
            told 1 {2 5 6} = {3 1 0}
            done {2 0} = {2 1}
            told 1 {2 5 6} = {3 1 2}
            done 1 = 0
            told 1 {0..6} = {10 20 3 5 0 1 3}
            """);
        Rows.hold("whether it is released: not if something is missing", """
            new 65536
            hour 0 0 9
            order 5 0 10
            line 0 0 1
            plan = 0
            release 1 = 2
            told 1 5 = 0
            stock 0 1
            release 1 = 0
            told 1 5 = 1
            stock 0 0
            told 1 5 = 1               -- what it lacks now does not undo it
            """);
        Rows.hold("its orders: sixteen of them", """
            new 65536
            hour 2 0 9
            16 x order 5 0 10
            carrier {0..15} 2
            plan = 150
            told 1 {0..6} = {10 150 16 5 2 0 0}
            release 1 = 0
            done {0..15} = {15 14 13 12 11 10 9 8 7 6 5 4 3 2 1 0}
            told 1 {0..6} = {10 150 16 5 2 1 16}
            """);
    }
}
