/**
 * Runs with orders of every kind at once: each carrier, the first and the last zone, time, good and wave, the fewest
 * and the most seconds, no line and four of them. Of what the document says of orders none of these is left out.
 */
final class EachKindTest {
    /**
     * Four orders of each carrier. Their zones are no neighbours and they share no good, so nothing is saved; with the
     * least capacity for them, 10000, each one has a wave of its own.
     */
    private static final String SIXTEEN_ORDERS = """
        order {0 1 2 3} {0 2 5 7} {10000 1 10000 10000}
        order {99996 10 11 12} {0 2 5 7} {10000 10000 1 10000}
        order {99998 99997 20 21} {7 0 2 5} {1 10000 10000 10000}
        order {100000 99999 30 31} {7 5 2 0} {10000 10000 10000 1}
        carrier {4..7} 1
        carrier {8..11} 2
        carrier {12..15} 3
        line 0 {0 1 2 3} {1 2 3 100}
        line 2 {9 8 7 6} {100 99 98 1}
        line 3 4 50
        line 5 {0 9} {7 8}
        line 7 {1 8 5 2} 9
        line 10 9 100
        line 12 {0 9 4 5} {100 100 1 2}
        line 15 {3 2} {10 20}
        """;
    private static final String OPEN = "hour {0..3} 0 100000\n";

    public static void main(String[] args) {
        free();
        wavesOfOne();
        wavesOfFour();
        work();
        late();
        undone();
        joined();
        Check.end();
    }

    private static void free() {
        Rows.hold("An order is FREE: each kind, counted, changed and given another carrier", "new {5000 10000}\n" + SIXTEEN_ORDERS + """
            count {0..5} = {16 0 16 0 0 0}
            wave {0..15} = 0
            change {0..15} 5 = false
            carrier {0..15} 0
            cutoff {1 2 3} 100000 = 0
            cutoff 0 4 = 0
            cutoff 0 5 = 16
            """);
    }

    private static void wavesOfOne() {
        Rows.hold("the free one with the least due time begins a wave: each kind one of its own", "new 10000\n" + OPEN + SIXTEEN_ORDERS + """
            plan = 0
            wave {0 1 2 3 5 6 7 10 11 14 15} = {1 2 3 4 5 6 7 8 9 10 11}
            wave {4 9 8 13 12} = {12 13 14 15 16}
            told {1..8} 0 = {10000 1 10000 10000 10000 1 10000 10000}
            told {9..16} 0 = {10000 10000 1 10000 10000 1 10000 10000}
            told {1..11} 3 = {0 1 2 3 10 11 12 20 21 30 31}
            told {12..16} 3 = {99996 99997 99998 99999 100000}
            told {1..16} 4 = {0 0 0 0 1 1 1 2 2 3 3 1 2 2 3 3}
            lacks 1 {0..9} = {1 2 3 100 0 0 0 0 0 0}
            lacks 3 {0..9} = {0 0 0 0 0 0 1 98 99 100}
            lacks 16 {0..9} = {100 0 0 0 1 2 0 0 0 100}
            replenish {1..8} 0 = {0 -1 6 4 0 -1 1 9}
            replenish {9..16} 0 = {-1 -1 2 -1 -1 -1 -1 0}
            count {0..6} = {16 16 0 0 0 0 10000}
            """);
        Rows.hold("They leave their waves: each kind, and a wave from which all orders went is EMPTY", "new 10000\n" + OPEN + SIXTEEN_ORDERS + """
            plan = 0
            cutoff {0..3} 100000 = 4
            told {1..16} 2 ! NoSuchElementException
            count {0..6} = {16 0 0 16 0 0 10000}
            """);
    }

    private static void wavesOfFour() {
        Rows.hold("even if the saving is 0: all of a carrier, the least due time first", "new 65536\n" + OPEN + SIXTEEN_ORDERS + """
            plan = 0
            wave {0..15} = {1 1 1 1 2 2 2 2 3 3 3 3 4 4 4 4}
            told {1..4} 0 = 30001
            told {1..4} 3 = {0 10 20 30}
            member 1 {0..3} = {0 1 2 3}
            member 2 {0..3} = {5 6 7 4}
            member 3 {0..3} = {10 11 9 8}
            member 4 {0..3} = {14 15 13 12}
            lacks 1 {0..9} = {1 2 3 100 50 0 1 98 99 100}
            lacks 2 {0..9} = {7 9 9 0 0 9 0 0 9 8}
            lacks 3 {0..9} = {0 0 0 0 0 0 0 0 0 100}
            lacks 4 {0..9} = {100 0 20 10 1 2 0 0 0 100}
            """);
        Rows.hold("whether it left its wave by that (and is free): each kind", "new 65536\nhour {0..3} 1 99999\n" + SIXTEEN_ORDERS + """
            change {0 12} {1 99999} = false
            plan = 0
            change {0..7} 100000 = true
            change {8..15} 0 = true
            count {0..6} = {16 0 16 0 0 0 65536}
            """);
        Rows.hold("again and again, till none may: all due at the first time, or at the last one", """
            new 65536
            hour 0 0 0
            hour 1 100000 100000
            8 x order 0 0 10
            8 x order 100000 7 10
            carrier {8..15} 1
            plan = 140
            member 1 {0..7} = {0 1 2 3 4 5 6 7}
            member 2 {0..7} = {8 9 10 11 12 13 14 15}
            """);
    }

    private static void work() {
        Rows.hold("released and done: each kind, with just the pieces that all want", "new 65536\n" + OPEN + SIXTEEN_ORDERS + """
            stock {0..9} {108 11 32 110 51 11 1 98 108 308}
            plan = 0
            release {4 3 2 1} = 0
            lacks 1 {0..9} = 0
            done {15 14 13 12} = {3 2 1 0}
            done {11 10 9 8} = {3 2 1 0}
            done {7 6 5 4} = {3 2 1 0}
            done {3 2 1 0} = {3 2 1 0}
            wave {0..15} = {1 1 1 1 2 2 2 2 3 3 3 3 4 4 4 4}
            told {1..4} 0 = 30001
            told {1..4} 2 = 4
            told {1..4} 5 = 1
            told {1..4} 6 = 4
            member 3 {0..3} = {10 11 9 8}
            lacks 4 {0..9} = 0
            count {0..6} = {16 4 0 0 16 0 65536}
            cutoff {0..3} 100000 = 0
            change {0..15} 5 ! IllegalStateException
            """);
        Rows.hold("2 it lacks a good: the last wave to be released, a piece of each good too few", "new 65536\n" + OPEN + SIXTEEN_ORDERS + """
            stock {0..9} {107 10 31 109 50 11 0 97 107 307}
            plan = 0
            release {4 3 2 1} = {0 0 0 2}
            lacks 1 {0..9} = {1 1 1 1 1 0 1 1 1 1}
            replenish 1 {0..9} = {0 1 2 3 4 6 7 8 9 -1}
            lacks 4 {0..9} = 0
            """);
    }

    private static void late() {
        Rows.hold("with due times at or before it, are late: each kind while it is free", "new {5000 10000}\n" + SIXTEEN_ORDERS + """
            cutoff {0..3} 20 = {4 3 1 0}
            late {0..8} = {0 1 2 3 5 6 7 10 -1}
            cutoff {0..3} 99998 = {0 1 3 2}
            late {0..14} = {0 1 2 3 4 5 6 7 8 9 10 11 14 15 -1}
            cutoff {0..3} 100000 = {0 0 0 2}
            late {0..16} = {0 1 2 3 4 5 6 7 8 9 10 11 12 13 14 15 -1}
            count {2 3} = {0 16}
            """);
        Rows.hold("with due times at or before it, are late: each kind in a wave of four", "new 65536\n" + OPEN + SIXTEEN_ORDERS + """
            plan = 0
            cutoff {0..3} 20 = {4 3 1 0}
            wave {0..15} = {-1 -1 -1 -1 2 -1 -1 -1 3 3 -1 3 4 4 4 4}
            told {2 3 4} 0 = {10000 20001 30001}
            cutoff {0..3} 99998 = {0 1 3 2}
            told 4 {0 2 3} = {20000 2 99999}
            count {0..6} = {16 1 0 14 0 0 65536}
            """);
    }

    private static void undone() {
        Rows.hold("nothing is planned: each kind is free as it was", "new 10000\nhour 0 0 0\n" + SIXTEEN_ORDERS + """
            plan = 0
            wave 0 = 1
            change 0 1 = true
            hour 0 1 3
            hour {1..3} 0 100000
            change {0 13} {0 100000} = false
            plan ! UnsupportedOperationException
            wave {0..15} = 0
            told {1..16} 2 ! NoSuchElementException
            count {0..6} = {16 0 16 0 0 0 10000}
            cutoff 3 30 = 1
            plan = 0
            wave {0..15} = {2 3 4 5 12 6 7 8 14 13 9 10 15 16 -1 11}
            told {2..16} 2 = 1
            told {2..16} 4 = {0 0 0 0 1 1 1 2 2 3 1 2 2 3 3}
            """);
    }

    private static void joined() {
        Rows.hold("Two waves become one: each kind but carrier 0", "new 65536\nhour {0..3} 0 31\n" + SIXTEEN_ORDERS + """
            plan = 0
            hour {1..3} 99996 100000
            plan = 0
            wave {0..15} = {1 1 1 1 5 2 2 2 6 6 3 3 7 7 4 4}
            join {1 2 3 4} {5 6 7 1} ! IllegalStateException
            join {2 3 4} {5 6 7} = 30001
            wave {0..15} = {1 1 1 1 2 2 2 2 3 3 3 3 4 4 4 4}
            member 2 {0..3} = {5 6 7 4}
            member 3 {0..3} = {10 11 9 8}
            member 4 {0..3} = {14 15 13 12}
            told {2 3 4} 3 = {10 20 30}
            told {2 3 4} 4 = {1 2 3}
            lacks 4 {0..9} = {100 0 20 10 1 2 0 0 0 100}
            count {0..6} = {16 4 0 0 0 0 65536}
            """);
    }
}
