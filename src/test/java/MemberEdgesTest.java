/** Promise 10: every boundary that the document names for member. */
final class MemberEdgesTest {
    public static void main(String[] args) {
        Rows.hold("NoSuchElementException: no such wave", """
            new 100
            member {MIN -1 0 1 16 17 MAX} 0 ! NoSuchElementException
            hour 0 0 9
            order 5 0 10
            plan = 0
            member 1 0 = 0
            member {MIN -1 0 2 3 16 17 MAX} 0 ! NoSuchElementException
            """);
        Rows.hold("NoSuchElementException: no such order in it, below 0 and behind the last", """
            new 100
            hour 0 0 9
            3 x order 5 0 10
            plan = 20
            order 5 0 10               -- it is there, but not in the wave
            member 1 {0 1 2} = {0 1 2}
            member 1 {MIN -1 3 4 15 16 MAX} ! NoSuchElementException
            """);
        Rows.hold("NoSuchElementException: neither such a wave nor such an order", """
            new 100
            hour 0 0 9
            order 5 0 10
            plan = 0
            member {MIN -1 0 2 MAX} {MIN -1 1 16 MAX} ! NoSuchElementException
            """);
        Rows.hold("Order i of a wave: one alone, and none of an EMPTY one", """
            new 100
            hour 0 0 9
            order 5 0 10
            plan = 0
            member 1 0 = 0
            member 1 {-1 1} ! NoSuchElementException
            change 0 10 = true
            member 1 {-1 0 1} ! NoSuchElementException
            """);
        Rows.hold("Order i of a wave: sixteen", """
            new 100
            hour 0 0 20
            order {15 14 13 12 11 10 9 8 7 6 5 4 3 2 1 0} 0 10
            plan = 150
            member 1 {0..15} = {15 14 13 12 11 10 9 8 7 6 5 4 3 2 1 0}
            member 1 {MIN -1 16 17 MAX} ! NoSuchElementException
            """);
        asTheyCame();
        Check.end();
    }

    private static void asTheyCame() {
        Rows.hold("as they came into it: when the first, one between and the last has left", """
            new 65536
            hour 0 0 9
            order {1 2 3 4 5} 0 10
            plan = 40
            change 0 10 = true
            member 1 {0..3} = {1 2 3 4}
            member 1 4 ! NoSuchElementException
            change 2 10 = true
            member 1 {0..2} = {1 3 4}
            member 1 3 ! NoSuchElementException
            change 4 10 = true
            member 1 {0 1} = {1 3}
            member 1 2 ! NoSuchElementException
            """);
        Rows.hold("as they came into it: another due time within the hours leaves them so", """
            new 65536
            hour 0 0 9
            order {1 2 3} 0 10
            plan = 20
            change 2 0 = false
            member 1 {0 1 2} = {0 1 2}
            """);
        Rows.hold("as they came into it: released and done ones, too", """
            new 65536
            hour 0 0 9
            order {4 3 2 1} 0 10
            plan = 30
            release 1 = 0
            done {1 3} = {3 2}
            member 1 {0..3} = {3 2 1 0}
            done {0 2} = {1 0}
            member 1 {0..3} = {3 2 1 0}
            member 1 4 ! NoSuchElementException
            """);
        Rows.hold("as they came into it: the second one's orders behind the first one's", """
            new 65536
            hour 0 0 9
            order {4 5} 0 10
            plan = 10
            order {2 1} 0 10
            plan = 10
            join 1 2 = 10
            member 1 {0..3} = {0 1 3 2}
            member 1 4 ! NoSuchElementException
            member 2 0 ! NoSuchElementException
            """);
        Rows.hold("as they came into it: sixteen, when eight are joined to eight and some are late", """
            new 65536
            hour 0 0 20
            order {0..7} 0 10
            plan = 70
            order {8..15} 0 10
            plan = 70
            join 2 1 = 10
            member 2 {0..15} = {8 9 10 11 12 13 14 15 0 1 2 3 4 5 6 7}
            member 2 16 ! NoSuchElementException
            cutoff 0 9 = 10
            member 2 {0..5} = {10 11 12 13 14 15}
            member 2 6 ! NoSuchElementException
            """);
    }
}
