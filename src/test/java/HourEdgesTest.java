/** Promise 5: every boundary that the document names for hours. */
final class HourEdgesTest {
    public static void main(String[] args) {
        ranges();
        endsBeforeItBegins();
        room();
        bothCounted();
        Check.end();
    }

    private static void ranges() {
        Rows.hold("CARRIERS 0 .. 3: the carrier of an hour", """
            new 100
            hour {MIN -4 -1 4 MAX} 0 9 ! IllegalArgumentException
            hour {0 3} 0 9 = 1
            hour {-1 4} 0 9 ! IllegalArgumentException
            hour {0..3} 0 9 = {2 1 1 2}
            """);
        Rows.hold("TIMES 0 .. 100000: where an hour begins", """
            new 100
            order {0 9} 0 10
            hour 0 {MIN -100000 -1} 9 ! IllegalArgumentException
            hour 0 {100001 MAX} {100001 MAX} ! IllegalArgumentException
            plan = 0
            wave {0 1} = 0
            hour 0 {0 100000} {9 100000} = {1 2}
            plan = 10
            wave {0 1} = 1
            """);
        Rows.hold("TIMES 0 .. 100000: where an hour ends", """
            new 100
            order {0 100000} 0 10
            hour 0 0 {100001 MAX} ! IllegalArgumentException
            hour 0 {MIN -1 0} {MIN -1 -1} ! IllegalArgumentException
            plan = 0
            wave {0 1} = 0
            hour 0 0 {0 100000} = {1 2}
            plan = 10
            wave {0 1} = 1
            """);
    }

    private static void endsBeforeItBegins() {
        Rows.hold("IllegalArgumentException: also if it ends before it begins", """
            new 100
            order {4 5} 0 10
            hour 0 {5 1 100000 100000} {4 0 99999 0} ! IllegalArgumentException
            plan = 0
            wave {0 1} = 0
            hour 0 {5 0 100000 4} {5 0 100000 5} = {1 2 3 4}
            """);
        Rows.hold("an hour that ends as it begins has this one time", """
            new 15
            order {4 5 6} 0 15
            hour 0 5 5 = 1
            plan = 0
            wave {0 1 2} = {0 1 0}
            """);
    }

    private static void room() {
        Rows.hold("at most 10 in all: of one carrier", """
            new 100
            9 x hour 2 0 9
            hour 2 0 9 = 10
            hour {0..3} 0 9 ! UnsupportedOperationException
            order 5 0 10
            plan = 0
            wave 0 = 0
            """);
        Rows.hold("at most 10 in all: of all carriers, how many this carrier has", """
            new 100
            hour {0 1 2 3 0 1 2 0 1 0} {0..9} 9 = {1 1 1 1 2 2 2 3 3 4}
            hour {0..3} 10 10 ! UnsupportedOperationException
            hour {0 3} {0 100000} 100000 ! UnsupportedOperationException
            4 x order 10 0 10
            carrier {1 2 3} {1 2 3}
            plan = 0
            wave {0..3} = 0            -- what was refused is not open
            change {0..3} 9 = false
            plan = 0
            wave {0..3} = {1 2 3 4}
            """);
        Rows.hold("at most 10 in all: the ten stay as they are when one more is refused", """
            new 15
            hour 0 2 3
            8 x hour 1 0 0
            hour 0 5 6 = 2
            hour {0 1 2 3} {7 5 5 0} {8 6 6 100000} ! UnsupportedOperationException
            order {1 2 3 4 5 6 7 8} 0 15
            order {0 5} 0 15
            carrier {8 9} 1
            plan = 0
            wave {0..9} = {0 2 3 0 4 5 0 0 1 0}
            """);
        Rows.hold("REFUSALS, the first that holds: a number outside its range, then no room", """
            new 100
            10 x hour 0 0 9
            hour {MIN -1 4 MAX} 0 9 ! IllegalArgumentException
            hour 0 {MIN -1 100001 MAX} 9 ! IllegalArgumentException
            hour 0 0 {MIN -1 100001 MAX} ! IllegalArgumentException
            hour 0 {5 100000} {4 99999} ! IllegalArgumentException
            hour 0 0 9 ! UnsupportedOperationException
            """);
    }

    private static void bothCounted() {
        Rows.hold("open from a time to another one, both counted", """
            new 15
            hour 0 10 20 = 1
            order {9 10 11 19 20 21} 0 15
            plan = 0
            wave {0..5} = {0 1 2 3 4 0}
            """);
        Rows.hold("both counted: the first and the last time there is", """
            new 15
            hour 0 0 0 = 1
            hour 0 100000 100000 = 2
            order {0 1 99999 100000} 0 15
            plan = 0
            wave {0..3} = {1 0 0 2}
            """);
        Rows.hold("A time FITS a carrier if one of its hours has it: not between two, not another carrier's", """
            new 15
            hour 0 1 3 = 1
            hour 0 5 7 = 2
            hour 1 4 4 = 1
            order {3 4 5 4 3} 0 15
            carrier {3 4} 1
            plan = 0
            wave {0..4} = {1 0 3 2 0}
            """);
        Rows.hold("A time FITS a carrier if one of its hours has it: the last of ten", """
            new 15
            9 x hour 0 1 1
            hour 3 8 8 = 1
            2 x order 8 0 15
            carrier 1 3
            plan = 0
            wave {0 1} = {0 1}
            """);
        Rows.hold("hours that lie over one another, and one twice", """
            new 15
            hour 0 {1 3 3} {4 6 6} = {1 2 3}
            order {0 1 3 4 6 7} 0 15
            plan = 0
            wave {0..5} = {0 1 2 3 4 0}
            """);
    }
}
