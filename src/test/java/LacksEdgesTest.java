/** Promise 12: every boundary that the document names for lacks. */
final class LacksEdgesTest {
    public static void main(String[] args) {
        refusals();
        howMany();
        otherWaves();
        Check.end();
    }

    private static void refusals() {
        Rows.hold("NoSuchElementException: a wave that there is not, or an EMPTY one", """
            new 100
            lacks {MIN -1 0 1 16 17 MAX} 0 ! NoSuchElementException
            hour 0 0 9
            order 5 0 10
            line 0 0 1
            plan = 0
            lacks 1 0 = 1
            lacks {MIN -1 0 2 3 16 17 MAX} 0 ! NoSuchElementException
            change 0 10 = true
            lacks 1 0 ! NoSuchElementException
            """);
        Rows.hold("GOODS 0 .. 9: the good that is lacked", """
            new 100
            hour 0 0 9
            order 5 0 10
            line 0 {0 9} {3 4}
            plan = 0
            lacks 1 {MIN -10 -1 10 11 MAX} ! IllegalArgumentException
            lacks 1 {0 1 8 9} = {3 0 0 4}
            """);
        Rows.hold("REFUSALS, the first that holds: no such wave, then a number outside its range", """
            new 100
            hour 0 0 9
            order 5 0 10
            plan = 0
            lacks {MIN -1 0 2 17 MAX} {MIN -1 10 -1 10 MAX} ! NoSuchElementException
            cutoff 0 9 = 1
            lacks 1 {MIN -1 10 MAX} ! NoSuchElementException
            """);
    }

    private static void howMany() {
        Rows.hold("0 if none: no lines, no line of this good, just so many there, more there", """
            new 100
            hour 0 0 9
            order 5 0 10
            plan = 0
            lacks 1 {0..9} = 0
            order 5 0 10
            line 1 4 7
            plan = 0
            lacks 2 {3 4 5} = {0 7 0}
            stock 4 6
            lacks 2 4 = 1
            stock 4 7
            lacks 2 4 = 0
            stock 4 8
            lacks 2 4 = 0
            """);
        Rows.hold("How many pieces: the most that there can be", """
            new 65536
            hour 0 0 9
            16 x order 5 0 10
            line {0..15} 0 100
            plan = 150
            lacks 1 0 = 1600
            stock 0 1599
            lacks 1 0 = 1
            stock 0 1600
            lacks 1 0 = 0
            """);
    }

    private static void otherWaves() {
        Rows.hold("is left of the stock (nothing below 0): others want just all of it, or more than it", """
            new 15
            hour 0 0 9
            3 x order 5 0 15
            line {0 1 2} 7 {10 20 30}
            stock 7 31
            plan = 0
            release {1 2} = 0
            lacks 3 7 = 29
            stock 7 30
            lacks 3 7 = 30
            stock 7 29
            lacks 3 7 = 30             -- not 31
            stock 7 0
            lacks {1 2 3} 7 = {10 20 30}
            """);
        Rows.hold("all that other released waves want: a released wave lacks what the others want", """
            new 15
            hour 0 0 9
            3 x order 5 0 15
            line {0 1 2} 7 {10 20 30}
            stock 7 60
            plan = 0
            release {1 2 3} = 0
            lacks {1 2 3} 7 = 0
            stock 7 59
            lacks {1 2 3} 7 = 1
            stock 7 45
            lacks {1 2 3} 7 = {10 15 15}
            """);
        Rows.hold("(those of orders that are done not counted)", """
            new 65536
            hour 0 0 9
            3 x order 5 0 15
            line {0 1 2} 7 {10 20 30}
            stock 7 60
            plan
            release 1 = 0
            stock 7 0
            lacks 1 7 = 60
            done 1 = 2
            lacks 1 7 = 40
            done {0 2} = {1 0}
            lacks 1 7 = 0
            """);
        Rows.hold("when a wave that wanted is EMPTY, and when two are joined", """
            new 100
            hour 0 0 9
            order 5 0 15
            line 0 7 10
            plan = 0
            order 5 0 15
            line 1 7 20
            plan = 0
            lacks {1 2} 7 = {10 20}
            join 1 2 = 17
            lacks 1 7 = 30
            change 0 10 = true
            lacks 1 7 = 20
            """);
    }
}
