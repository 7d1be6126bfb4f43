/** Promise 14: every boundary that the document names for done. */
final class DoneEdgesTest {
    public static void main(String[] args) {
        refusals();
        howManyAreNot();
        stock();
        Check.end();
    }

    private static void refusals() {
        Rows.hold("NoSuchElementException: an order that there is not", """
            new 100
            done {MIN -1 0 1 15 16 MAX} ! NoSuchElementException
            hour 0 0 9
            order 5 0 10
            plan = 0
            release 1 = 0
            done {MIN -16 -1 1 2 15 16 17 MAX} ! NoSuchElementException
            done 0 = 0
            """);
        Rows.hold("NoSuchElementException: below the first and behind the last of sixteen", """
            new 65536
            hour 0 0 9
            16 x order 5 0 10
            plan = 150
            release 1 = 0
            done {MIN -1 16 17 MAX} ! NoSuchElementException
            done 15 = 15
            count 4 = 1
            """);
        Rows.hold("IllegalStateException: its wave is not released", """
            new 100
            hour 0 0 9
            order 5 0 10
            line 0 0 3
            stock 0 2
            plan = 0
            done 0 ! IllegalStateException
            release 1 = 2
            done 0 ! IllegalStateException
            lacks 1 0 = 1
            count 4 = 0
            """);
        Rows.hold("IllegalStateException: it has no wave, as it is free or late", """
            new 100
            hour 0 0 9
            order {5 10} 0 10
            line {0 1} 0 3
            stock 0 3
            done {0 1} ! IllegalStateException
            plan = 0
            change 0 10 = true
            done 0 ! IllegalStateException
            cutoff 0 10 = 2
            done {0 1} ! IllegalStateException
            count 4 = 0
            """);
        Rows.hold("IllegalStateException: it is done", """
            new 100
            hour 0 0 9
            2 x order 5 0 10
            line 0 0 3
            stock 0 9
            plan = 10
            release 1 = 0
            done 0 = 1
            done 0 ! IllegalStateException
            done 1 = 0
            done {0 1} ! IllegalStateException
            count 4 = 2
            order 5 0 10
            line 2 0 7
            plan = 0
            lacks 2 0 = 1              -- three were taken, once
            """);
    }

    private static void howManyAreNot() {
        Rows.hold("how many of its wave are not: of one", """
            new 100
            hour 0 0 9
            order 5 0 10
            plan = 0
            release 1 = 0
            done 0 = 0
            told 1 {2 5 6} = 1
            """);
        Rows.hold("how many of its wave are not: of sixteen, in any order", """
            new 65536
            hour 0 0 9
            16 x order 5 0 10
            plan = 150
            release 1 = 0
            done {15 0 8 7 1 14 2 13} = {15 14 13 12 11 10 9 8}
            done {3 12 4 11 5 10 6 9} = {7 6 5 4 3 2 1 0}
            count {1 4} = {1 16}
            """);
        Rows.hold("how many of its wave are not: other waves' orders are not counted", """
            new 15
            hour 0 0 9
            2 x order 5 0 15
            plan = 0
            release {1 2} = 0
            done 1 = 0
            told {1 2} 6 = {0 1}
            """);
    }

    private static void stock() {
        Rows.hold("its lines are taken from the stock: just all that is there, and more is left of others", """
            new 100
            hour 0 0 9
            order 5 0 10
            line 0 {0 3 6 9} {1 2 3 100}
            stock {0 3 6 9} {1 3 3 101}
            plan = 0
            release 1 = 0
            done 0 = 0
            order 5 0 10
            line 1 {0 3 6 9} 1
            plan = 0
            lacks 2 {0 3 6 9} = {1 0 1 0}
            """);
        Rows.hold("(as far as they are there): one too few, none", """
            new 65536
            hour 0 0 9
            order 5 0 10
            line 0 {0 9} 10
            stock {0 9} 10
            plan = 0
            release 1 = 0
            stock {0 9} {9 0}
            done 0 = 0
            order 5 0 10
            line 1 {0 9} 10
            plan = 0
            lacks 2 {0 9} = 10         -- nothing is below 0
            stock {0 9} 10
            lacks 2 {0 9} = 0
            """);
        Rows.hold("its lines: an order without lines takes nothing, nor those of another order", """
            new 65536
            hour 0 0 9
            2 x order 5 0 10
            line 1 {0 1} 5
            stock {0 1} {5 6}
            plan = 10
            release 1 = 0
            done 0 = 1
            lacks 1 {0 1} = 0
            stock 0 4
            lacks 1 {0 1} = {1 0}
            """);
        Rows.hold("finished work is kept: what a wave saves by lines of the same good is saved still", """
            new 100
            hour 0 0 9
            2 x order 5 0 30
            line {0 1} {4 4} {1 2}
            stock 4 3
            plan = 13
            release 1 = 0
            done {0 1} = {1 0}
            told 1 {0 1} = {47 13}
            count 5 = 13
            """);
        Rows.hold("finished work is kept: cut-offs, other due times and plannings leave it", """
            new 100
            hour 0 0 9
            2 x order 5 0 10
            plan = 10
            release 1 = 0
            done 0 = 1
            cutoff 0 100000 = 0
            change 0 9 ! IllegalStateException
            change 1 100000 = false
            plan = 0
            told 1 {0..6} = {10 10 2 5 0 1 1}
            wave {0 1} = 1
            """);
    }
}
