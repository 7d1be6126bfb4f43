/** Promise 17: every boundary that the document names for cutoff. */
final class CutoffEdgesTest {
    public static void main(String[] args) {
        refusals();
        atOrBefore();
        whoseOrders();
        theyLeave();
        Check.end();
    }

    private static void refusals() {
        Rows.hold("CARRIERS 0 .. 3: the carrier of a cut-off", """
            new 100
            4 x order 5 0 10
            carrier {1 2 3} {1 2 3}
            cutoff {MIN -4 -1 4 MAX} 100000 ! IllegalArgumentException
            count 3 = 0
            cutoff {0 3} 5 = 1
            wave {0..3} = {-1 0 0 -1}
            """);
        Rows.hold("TIMES 0 .. 100000: the time of a cut-off", """
            new 100
            order {0 100000} 0 10
            cutoff 0 {MIN -100000 -1 100001 MAX} ! IllegalArgumentException
            count 3 = 0
            cutoff 0 0 = 1
            cutoff 0 {-1 100001} ! IllegalArgumentException
            cutoff 0 99999 = 0
            cutoff 0 100000 = 1
            count 3 = 2
            """);
        Rows.hold("both numbers outside their ranges", """
            new 100
            order 5 0 10
            cutoff {MIN -1 4 MAX} {MIN -1 100001 MAX} ! IllegalArgumentException
            cutoff {MIN -1 4 MAX} {MAX 100001 -1 MIN} ! IllegalArgumentException
            count 3 = 0
            """);
    }

    private static void atOrBefore() {
        Rows.hold("with due times at or before it: free ones", """
            new 100
            order {9 10 11} 0 10
            cutoff 0 8 = 0
            cutoff 0 10 = 2
            wave {0 1 2} = {-1 -1 0}
            cutoff 0 10 = 0            -- late ones are not late again
            cutoff 0 11 = 1
            """);
        Rows.hold("with due times at or before it: those in waves", """
            new 100
            hour 0 0 20
            order {9 10 11} 0 15
            plan = 20
            cutoff 0 8 = 0
            told 1 2 = 3
            cutoff 0 10 = 2
            wave {0 1 2} = {-1 -1 1}
            told 1 {0 1 2 3} = {15 0 1 11}
            cutoff 0 10 = 0
            cutoff 0 11 = 1
            told 1 2 ! NoSuchElementException
            """);
        Rows.hold("with due times at or before it: an order's own, not its wave's", """
            new 100
            hour 0 0 20
            order {11 12 10 9} 0 15
            plan = 30
            told 1 3 = 9
            cutoff 0 10 = 2
            wave {0..3} = {1 1 -1 -1}
            told 1 {2 3} = {2 11}
            """);
        Rows.hold("with due times at or before it: as they are now", """
            new 100
            order {5 5} 0 10
            change {0 1} {6 4} = false
            cutoff 0 5 = 1
            late {0 1} = {1 -1}
            """);
    }

    private static void whoseOrders() {
        Rows.hold("The cut-off of a carrier: no other one's orders", """
            new 100
            hour {0..3} 0 4
            8 x order 5 0 15
            carrier {1 2 3} {1 2 3}
            change {4..7} 4 = false
            carrier {5 6 7} {1 2 3}
            plan = 0
            cutoff 2 100000 = 2
            wave {0..7} = {0 0 -1 0 1 2 -1 4}
            cutoff 0 4 = 1
            wave {0..7} = {0 0 -1 0 -1 2 -1 4}
            """);
        Rows.hold("The cut-off of a carrier: the one that an order has now", """
            new 100
            2 x order 5 0 10
            carrier 0 {3 1}
            cutoff {0 1 2 3} 5 = {1 1 0 0}
            """);
        Rows.hold("free or in waves that are not released: released ones and done ones stay", """
            new 15
            hour 0 0 9
            3 x order 5 0 15
            order 10 0 15
            plan = 0
            release {1 2} = 0
            done 1 = 0
            cutoff 0 100000 = 2
            wave {0..3} = {1 2 -1 -1}
            told {1 2} 2 = 1
            count {1 3 4} = {2 2 1}
            """);
        Rows.hold("how many: none, and all sixteen", """
            new 15
            hour 0 0 9
            cutoff 0 100000 = 0
            16 x order 5 0 15
            plan = 0
            cutoff {1 2 3} 100000 = 0
            cutoff 0 4 = 0
            cutoff 0 5 = 16
            count {0 1 2 3 5} = {16 0 0 16 0}
            """);
    }

    private static void theyLeave() {
        Rows.hold("They leave their waves: what is saved, how long and how due they are is of those left", """
            new 65536
            hour 0 0 9
            order {1 2 3 4} {3 2 3 4} 50
            plan = 20
            member 1 {0..3} = {0 2 1 3}
            cutoff 0 1 = 1
            told 1 {0..6} = {140 10 3 2 0 0 0}
            member 1 {0 1 2} = {2 1 3}
            cutoff 0 3 = 2
            told 1 {0..6} = {50 0 1 4 0 0 0}
            count 5 = 0
            """);
        Rows.hold("They leave their waves: late ones want nothing and come into no wave", """
            new 65536
            hour 0 0 9
            order {1 2} 0 50
            line {0 1} 4 7
            plan = 13
            lacks 1 4 = 14
            cutoff 0 1 = 1
            lacks 1 4 = 7
            plan = 0
            wave {0 1} = {-1 1}
            stock 4 7
            release 1 = 0
            """);
    }
}
