/** Promise 8: every boundary that the document names for wave. */
final class WaveEdgesTest {
    public static void main(String[] args) {
        Rows.hold("NoSuchElementException: an order that there is not", """
            new 100
            wave {MIN -1 0 1 15 16 MAX} ! NoSuchElementException
            order 5 0 10
            wave 0 = 0
            wave {MIN -16 -1 1 2 15 16 17 MAX} ! NoSuchElementException
            15 x order 5 0 10
            wave {0 15} = 0
            wave {MIN -1 16 17 MAX} ! NoSuchElementException
            """);
        Rows.hold("0 if it is free: not yet planned, too long, not fitting, and when it left its wave", """
            new 50
            order {5 5 10} 0 {50 51 50}
            wave {0 1 2} = 0
            hour 0 0 9
            plan = 0
            wave {0 1 2} = {1 0 0}
            change 0 10 = true
            wave {0 1 2} = 0
            """);
        Rows.hold("-1 if it is late: of those that were free and of those that were in a wave", """
            new 100
            hour 0 0 9
            order {5 10} 0 10
            plan = 0
            cutoff 0 10 = 2
            wave {0 1} = -1
            """);
        Rows.hold("The wave of an order: the first one to the last one", """
            new 15
            hour 0 0 20
            16 x order 5 0 15
            plan = 0
            wave {0..15} = {1 2 3 4 5 6 7 8 9 10 11 12 13 14 15 16}
            release 16 = 0
            done 15 = 0
            wave 15 = 16               -- released and done, it is kept
            """);
        Rows.hold("The wave of an order: the first one of two that were joined", """
            new 100
            hour 0 0 9
            order 5 0 10
            plan = 0
            order 5 0 10
            plan = 0
            join 2 1 = 10
            wave {0 1} = 2
            """);
        Check.end();
    }
}
