/** Promise 19: every boundary that the document names for count. */
final class CountEdgesTest {
    public static void main(String[] args) {
        Rows.hold("-1 for another what: in a new object, and in one with everything", """
            new 100
            count {MIN -7 -1 7 8 100 MAX} = -1
            hour 0 0 9
            order {1 2 3 10} 0 50
            plan = 10
            release 1 = 0
            done 0 = 1
            cutoff 0 3 = 1
            count {0..6} = {4 1 1 1 1 10 100}
            count {MIN -7 -1 7 8 100 MAX} = -1
            """);
        Rows.hold("0 orders: the most, and all of them free", """
            new 100
            15 x order 5 0 10
            count {0 2} = 15
            order 5 0 10
            count {0 2} = 16
            order 5 0 10 ! UnsupportedOperationException
            count {0..6} = {16 0 16 0 0 0 100}
            """);
        Rows.hold("1 waves that are not empty: the most, then one fewer as each is emptied", """
            new 15
            hour 0 0 20
            order {0..15} 0 15
            plan = 0
            count {1 2} = {16 0}
            change 0 21 = true
            count {1 2} = {15 1}
            cutoff 0 2 = 2
            count {1 2 3} = {13 1 2}
            release 16 = 0
            done 15 = 0
            count {1 4} = {13 1}
            """);
        Rows.hold("1 waves that are not empty: two that are joined are one", """
            new 100
            hour 0 0 9
            order 5 0 10
            plan = 0
            order 5 0 10
            plan = 0
            count 1 = 2
            join 1 2 = 10
            count 1 = 1
            """);
        Rows.hold("2 free orders, 3 late ones: all of them, none", """
            new 100
            16 x order 5 0 10
            count {2 3} = {16 0}
            cutoff 0 5 = 16
            count {2 3} = {0 16}
            """);
        Rows.hold("4 done ones: all of them, in two waves", """
            new 80
            hour 0 0 9
            16 x order 5 0 15
            plan = 140
            count {1 4} = {2 0}
            release {1 2} = 0
            done {0..13} = {13 12 11 10 9 8 7 6 5 4 3 2 1 0}
            done {14 15} = {1 0}
            count {0..6} = {16 2 0 0 16 140 80}
            """);
        Rows.hold("5 seconds that all waves save: planned ones, released ones and done ones, but no EMPTY ones", """
            new 25
            hour 0 0 9
            count 5 = 0
            order {1..6} 0 15
            count 5 = 0
            plan = 40
            told {1 2} 1 = 20
            release 1 = 0
            count 5 = 40
            done {0 1 2} = {2 1 0}
            count 5 = 40
            cutoff 0 4 = 1
            count 5 = 30
            cutoff 0 9 = 2
            count 5 = 20
            """);
        Rows.hold("6 the capacity: it never changes", """
            new 65536
            count 6 = 65536
            hour 0 0 9
            16 x order 5 0 10000
            plan
            release 1 = 0
            done 0
            cutoff 0 9
            count 6 = 65536
            """);
        Check.end();
    }
}
