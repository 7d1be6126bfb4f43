/** Promise 1 and the capacity: every boundary that the document names. */
final class NewObjectEdgesTest {
    public static void main(String[] args) {
        capacity();
        nothingThere();
        Check.end();
    }

    private static void capacity() {
        Rows.hold("CAPACITY 0 .. 65536, below that 0", """
            new {MIN -65536 -1 0}
            count 6 = 0
            hour 0 0 9
            order 5 0 1
            plan = 0
            wave 0 = 0                 -- even one second is above it
            """);
        Rows.hold("CAPACITY 0 .. 65536, as told at the beginning: the first one with room", """
            new 1
            count 6 = 1
            hour 0 0 9
            order 5 0 1
            order 5 0 2
            plan = 0
            wave {0 1} = {1 0}
            """);
        Rows.hold("CAPACITY 0 .. 65536, as told at the beginning: just below the last", """
            new 65535
            count 6 = 65535
            hour 0 0 9
            6 x order 1 0 10000        -- 60000, 50 saved
            order 2 7 5585
            order 3 7 1
            plan = 51                  -- the last one is saved whole
            told 1 0 = 65535
            new 65535
            hour 0 0 9
            6 x order 1 0 10000
            order 2 7 5586
            plan = 50
            told {1 2} 0 = {59950 5586}
            """);
        Rows.hold("CAPACITY 0 .. 65536, above it 65536", """
            new {65536 65537 100000 MAX}
            count 6 = 65536
            hour 0 0 9
            6 x order 1 0 10000
            order 2 7 5586
            plan = 50
            told 1 {0 2} = {65536 7}
            new {65536 65537 100000 MAX}
            hour 0 0 9
            6 x order 1 0 10000
            order 2 7 5587
            plan = 50
            told {1 2} 0 = {59950 5587}
            """);
        Rows.hold("Every wave has the same CAPACITY", """
            new 50
            hour 0 0 9
            hour 3 0 9
            6 x order 5 0 30
            carrier {3 4 5} 3
            plan = 20
            count 1 = 4
            told {1..4} 0 = {50 30 50 30}
            count 6 = 50
            """);
    }

    private static void nothingThere() {
        Rows.hold("Nothing there: no order", """
            new 100
            line {MIN -1 0 1 15 16 MAX} 0 1 ! NoSuchElementException
            carrier {MIN -1 0 1 15 16 MAX} 0 ! NoSuchElementException
            wave {MIN -1 0 1 15 16 MAX} ! NoSuchElementException
            done {MIN -1 0 1 15 16 MAX} ! NoSuchElementException
            change {MIN -1 0 1 15 16 MAX} 0 ! NoSuchElementException
            """);
        Rows.hold("Nothing there: no wave", """
            new 100
            told {MIN -1 0 1 16 17 MAX} 0 ! NoSuchElementException
            member {MIN -1 0 1 16 17 MAX} 0 ! NoSuchElementException
            replenish {MIN -1 0 1 16 17 MAX} 0 ! NoSuchElementException
            lacks {MIN -1 0 1 16 17 MAX} 0 ! NoSuchElementException
            release {MIN -1 0 1 16 17 MAX} ! NoSuchElementException
            join {MIN -1 0 1 16 17 MAX} {MIN -1 0 1 16 17 MAX} ! NoSuchElementException
            join 1 2 ! NoSuchElementException
            """);
        Rows.hold("Nothing there: nothing is counted but the capacity", """
            new 100
            count {0..6} = {0 0 0 0 0 0 100}
            """);
        Rows.hold("Nothing there: nothing is late, nothing to cut off, nothing to plan", """
            new 100
            late {0 1 15 16 MAX} = -1
            cutoff {0..3} 100000 = 0
            plan = 0
            count {0..6} = {0 0 0 0 0 0 100}
            """);
        Rows.hold("Nothing there: no hours", """
            new 100
            4 x order 5 0 10
            carrier {1 2 3} {1 2 3}
            plan = 0
            wave {0..3} = 0
            hour {0..3} 5 5 = 1
            """);
        Rows.hold("STOCK: 0 at first", """
            new 100
            hour 0 0 9
            3 x order 5 0 10
            line 0 {0..3} 1
            line 1 {4..7} 1
            line 2 {8 9} 1
            plan = 20
            lacks 1 {0..9} = 1
            release 1 = 2
            """);
    }
}
