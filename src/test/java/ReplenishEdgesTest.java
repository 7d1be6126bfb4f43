/** Promise 11: every boundary that the document names for replenish. */
final class ReplenishEdgesTest {
    public static void main(String[] args) {
        refusals();
        goods();
        otherWaves();
        Check.end();
    }

    private static void refusals() {
        Rows.hold("NoSuchElementException: a wave that there is not, or an EMPTY one", """
            new 100
            replenish {MIN -1 0 1 16 17 MAX} 0 ! NoSuchElementException
            hour 0 0 9
            order 5 0 10
            line 0 0 1
            plan = 0
            replenish 1 0 = 0
            replenish {MIN -1 0 2 3 16 17 MAX} 0 ! NoSuchElementException
            change 0 10 = true
            replenish 1 0 ! NoSuchElementException
            """);
        Rows.hold("IllegalArgumentException: i is below 0", """
            new 100
            hour 0 0 9
            order 5 0 10
            line 0 0 1
            plan = 0
            replenish 1 {MIN -10 -1} ! IllegalArgumentException
            replenish 1 {0 1} = {0 -1}
            """);
        Rows.hold("REFUSALS, the first that holds: no such wave, then i below 0", """
            new 100
            hour 0 0 9
            order 5 0 10
            plan = 0
            replenish {MIN -1 0 2 17 MAX} {-1 MIN -1 -1 MIN -1} ! NoSuchElementException
            cutoff 0 9 = 1
            replenish 1 {MIN -1} ! NoSuchElementException
            """);
    }

    private static void goods() {
        Rows.hold("-1 if there are not so many: none, of a wave without lines", """
            new 100
            hour 0 0 9
            order 5 0 10
            plan = 0
            replenish 1 {0 1 9 10 MAX} = -1
            """);
        Rows.hold("-1 if there are not so many: behind the last one", """
            new 100
            hour 0 0 9
            order 5 0 10
            line 0 {9 4 0} 1
            plan = 0
            replenish 1 {0 1 2} = {0 4 9}
            replenish 1 {3 4 10 16 MAX} = -1
            """);
        Rows.hold("The i-th good (upward): all ten", """
            new 100
            hour 0 0 9
            3 x order 5 0 10
            line 0 {9 8 7 6} 1
            line 1 {5 4 3 2} 1
            line 2 {1 0 9 8} 1
            plan
            replenish 1 {0..10} = {0 1 2 3 4 5 6 7 8 9 -1}
            replenish 1 MAX = -1
            stock {0 9} 2
            replenish 1 {0..8} = {1 2 3 4 5 6 7 8 -1}
            """);
        Rows.hold("its lines want more of it than is left: just so many, one more, one fewer", """
            new 100
            hour 0 0 9
            2 x order 5 0 10
            line {0 1} {2 2} {6 4}
            plan = 10                  -- 10 and 3, but no more than 10 seconds
            stock 2 10
            replenish 1 0 = -1
            stock 2 9
            replenish 1 {0 1} = {2 -1}
            stock 2 11
            replenish 1 0 = -1
            stock 2 0
            replenish 1 {0 1} = {2 -1}
            """);
    }

    private static void otherWaves() {
        Rows.hold("when all that other released waves want is taken from it: planned ones take nothing", """
            new 15
            hour 0 0 9
            3 x order 5 0 15
            line {0 1 2} 7 10
            stock 7 20
            plan = 0
            replenish {1 2 3} 0 = -1
            release 1 = 0
            replenish {1 2 3} 0 = -1
            release 2 = 0
            replenish {1 2 3} 0 = {-1 -1 7}
            stock 7 30
            replenish {1 2 3} 0 = -1
            stock 7 29
            replenish {1 2 3} 0 = {-1 -1 7}
            """);
        Rows.hold("other released waves: its own lines are not taken from it", """
            new 15
            hour 0 0 9
            order 5 0 15
            line 0 7 10
            stock 7 10
            plan = 0
            release 1 = 0
            replenish 1 0 = -1
            stock 7 9
            replenish 1 0 = 7
            """);
        Rows.hold("(those of orders that are done not counted): its own", """
            new 100
            hour 0 0 9
            2 x order 5 0 10
            line {0 1} {3 4} 5
            stock {3 4} 5
            plan = 10
            release 1 = 0
            stock {3 4} 0
            replenish 1 {0 1 2} = {3 4 -1}
            done 0 = 1
            replenish 1 {0 1} = {4 -1}
            done 1 = 0
            replenish 1 0 = -1
            """);
        Rows.hold("(done orders not counted): another wave's", """
            new 15
            hour 0 0 9
            2 x order 5 0 15
            line {0 1} 3 5
            stock 3 5
            plan = 0
            release 1 = 0
            replenish 2 0 = 3
            done 0 = 0
            replenish 2 0 = 3          -- the done one has taken all
            stock 3 5
            replenish 2 0 = -1         -- and wants no more
            stock 3 4
            replenish 2 0 = 3
            """);
    }
}
