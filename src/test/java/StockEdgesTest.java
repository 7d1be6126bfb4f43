/** Promise 6: every boundary that the document names for the stock. */
final class StockEdgesTest {
    /** One wave that wants 100 pieces of each good. */
    private static final String WANTING = """
        new 100
        hour 0 0 9
        3 x order 5 0 10
        line 0 {0..3} 100
        line 1 {4..7} 100
        line 2 {8 9} 100
        plan
        """;

    public static void main(String[] args) {
        Rows.hold("GOODS 0 .. 9: the good of a stock", WANTING + """
            stock {MIN -10 -1 10 MAX} 5 ! IllegalArgumentException
            lacks 1 {0..9} = 100
            stock {0 9} {1 2}
            stock {-1 10} 5 ! IllegalArgumentException
            lacks 1 {0..9} = {99 100 100 100 100 100 100 100 100 98}
            """);
        Rows.hold("So many pieces (0 .. 10000)", WANTING + """
            stock 3 {MIN -10000 -1 10001 MAX} ! IllegalArgumentException
            lacks 1 3 = 100
            stock 3 1
            lacks 1 3 = 99
            stock 3 {-1 10001} ! IllegalArgumentException
            lacks 1 3 = 99
            stock 3 0
            lacks 1 3 = 100
            stock 3 10000
            lacks 1 3 = 0
            stock 3 {-1 10001} ! IllegalArgumentException
            lacks 1 3 = 0
            stock 3 9999
            lacks 1 3 = 0
            """);
        Rows.hold("both numbers outside their ranges", WANTING + """
            stock {MIN -1 10 MAX} {MIN -1 10001 MAX} ! IllegalArgumentException
            stock {MIN -1 10 MAX} {MAX 10001 -1 MIN} ! IllegalArgumentException
            lacks 1 {0..9} = 100
            """);
        Rows.hold("So many pieces of a good are there now: no more and no fewer than told last", WANTING + """
            stock 0 {60 40}
            lacks 1 0 = 60
            stock 0 100
            lacks 1 0 = 0
            stock 0 {99 99}
            lacks 1 0 = 1
            lacks 1 {1..9} = 100
            """);
        Rows.hold("the most pieces: 16 orders of 100 are taken from them", """
            new 65536
            hour 0 0 9
            15 x order 5 0 10
            line {0..14} 9 100
            stock 9 10000
            plan = 140
            release 1 = 0
            done {0..14} = {14 13 12 11 10 9 8 7 6 5 4 3 2 1 0}
            order 5 0 10
            line 15 9 100
            plan = 0
            lacks 2 9 = 0
            """);
        Check.end();
    }
}
