/** Promise 7: every boundary that the document names for plan. */
final class PlanEdgesTest {
    /** Sixteen waves of one order each; none can take another order. */
    private static final String SIXTEEN_WAVES = """
        new 15
        hour 0 0 20
        order {0..15} 0 15
        plan = 0
        """;

    /** Sixteen waves that one order began and left; it is free, and its due time fits. */
    private static final String SIXTEEN_EMPTY_WAVES = sixteenEmptied();

    public static void main(String[] args) {
        nothingToPlan();
        savedByNewWaves();
        sixteenWaves();
        moreThanSixteen();
        emptyOnesCounted();
        Check.end();
    }

    private static void nothingToPlan() {
        Rows.hold("plan without orders, without hours, without free ones, without such as fit", """
            new 100
            plan = 0
            order 5 0 10
            plan = 0
            hour 0 6 9
            hour 1 0 9
            plan = 0
            wave 0 = 0
            hour 0 5 5
            plan = 0
            wave 0 = 1
            plan = 0
            cutoff 0 5 = 1
            plan = 0
            count 1 = 0
            """);
    }

    private static void savedByNewWaves() {
        Rows.hold("how many seconds the new waves save: all new ones, no older ones", """
            new 65536
            hour {0 1} 0 9
            4 x order 5 0 100
            carrier {2 3} 1
            plan = 20
            plan = 0
            order 5 {0 1} 100
            plan = 5
            count 5 = 25
            """);
        Rows.hold("how many seconds the new waves save: the most", """
            new 65536
            hour 0 0 9
            16 x order 5 0 100
            line {0..15} 0 1
            line {0..15} 1 1
            line {0..15} 2 1
            line {0..15} 3 1
            plan = 330
            told 1 {0 1 2} = {1270 330 16}
            """);
    }

    private static void sixteenWaves() {
        Rows.hold("WAVES 1, 2, .. (as they are planned; at most 16 ever): sixteen", SIXTEEN_WAVES + """
            count 1 = 16
            wave {0..15} = {1 2 3 4 5 6 7 8 9 10 11 12 13 14 15 16}
            told 16 {0..6} = {15 0 1 15 0 0 0}
            told 17 0 ! NoSuchElementException
            """);
        Rows.hold("sixteen waves, and none to plan: nothing is refused", SIXTEEN_WAVES + """
            plan = 0
            change 3 21 = true
            plan = 0                   -- its due time does not fit
            wave 3 = 0
            cutoff 0 100 = 16
            plan = 0
            count {1 3} = {0 16}
            """);
        Rows.hold("sixteen waves, and one whose seconds are above the capacity: nothing is refused", SIXTEEN_EMPTY_WAVES + """
            order 1 0 101
            change 0 10 = false
            plan = 0                   -- one does not fit, one is too long
            count {1 2} = {0 2}
            change 0 9 = false
            plan ! UnsupportedOperationException
            """);
    }

    private static void moreThanSixteen() {
        Rows.hold("UnsupportedOperationException: there would be 17 waves", SIXTEEN_WAVES + """
            change 3 21 = true
            change 3 20 = false
            plan ! UnsupportedOperationException
            plan ! UnsupportedOperationException
            wave 3 = 0
            count {1 2} = {15 1}
            told {4 17} 0 ! NoSuchElementException
            line 3 9 1 = 1             -- it is free
            change 3 21 = false
            plan = 0
            """);
        Rows.hold("and nothing is planned: not those that would have had room", """
            new 15
            hour 0 0 20
            14 x order 5 0 15
            plan = 0
            change 0 21 = true
            change 0 20 = false
            order {3 4} {7 5} {15 14}
            plan ! UnsupportedOperationException
            wave {0 1 14 15} = {0 2 0 0}
            count {1 2 5} = {13 3 0}
            told {1 15 16 17} 0 ! NoSuchElementException
            change 15 21 = false
            plan = 0
            wave {0 14 15} = {16 15 0}
            told 15 {0..6} = {15 0 1 3 0 0 0}
            told 16 {0..6} = {15 0 1 20 0 0 0}
            """);
        Rows.hold("and nothing is planned: the first order, the last one and the savings of a wave of two", """
            new 20
            hour 0 0 20
            14 x order 5 0 16
            plan = 0
            change {0 1} 21 = true
            change {0 1} {1 9} = false
            order {2 10} 0 {4 20}
            plan ! UnsupportedOperationException
            wave {0 1 14 15} = 0
            count {1 2 5} = {12 4 0}
            told {1 2 15 16 17} 0 ! NoSuchElementException
            cutoff 0 9 = 15
            plan = 0
            wave 15 = 15
            """);
        Rows.hold("and nothing is planned: waves of other carriers with savings, then fewer are", """
            new 100
            hour {0 1} 0 9
            14 x order 5 0 95
            plan = 0
            change {0 1} 10 = true
            cutoff 0 4 = 0
            change {0 1} {2 1} = false
            carrier 0 1
            plan = 0
            wave {0 1} = {16 15}
            change {0 1} 10 = true
            change {0 1} 9 = false
            plan ! UnsupportedOperationException
            wave {0 1} = 0
            count {1 2} = {12 2}
            order {5 5} 0 5
            plan ! UnsupportedOperationException
            wave {14 15} = 0
            count {1 2 5} = {12 4 0}
            """);
    }

    private static void emptyOnesCounted() {
        Rows.hold("more than 16 waves (EMPTY ones counted): emptied by another due time", SIXTEEN_EMPTY_WAVES + """
            plan ! UnsupportedOperationException
            count {1 2} = {0 1}
            told {1..17} 0 ! NoSuchElementException
            """);
        Rows.hold("more than 16 waves (EMPTY ones counted): emptied by a cut-off", """
            new 15
            hour 0 0 20
            15 x order 5 0 15
            plan = 0
            cutoff 0 5 = 15
            count 1 = 0
            order 6 0 15
            plan = 0
            wave 15 = 16
            change 15 21 = true
            change 15 6 = false
            plan ! UnsupportedOperationException
            count {1 2 3} = {0 1 15}
            """);
        Rows.hold("more than 16 waves (EMPTY ones counted): emptied by joining", fifteenJoined() + """
            count 1 = 1
            told 1 {0 1 2} = {85 140 15}
            order 6 0 15
            plan = 0
            wave 15 = 16               -- no number of a joined wave is given again
            change 15 21 = true
            change 15 6 = false
            plan ! UnsupportedOperationException
            count {1 2} = 1
            """);
    }

    private static String sixteenEmptied() {
        StringBuilder rows = new StringBuilder("new 100\nhour 0 0 9\norder 5 0 10\n");
        for (int wave = 1; wave <= 16; wave++) {
            rows.append("plan = 0\nwave 0 = ").append(wave).append("\nchange 0 10 = true\nchange 0 5 = false\n");
        }
        return rows.toString();
    }

    private static String fifteenJoined() {
        StringBuilder rows = new StringBuilder("new 85\nhour 0 0 20\norder 5 0 15\nplan = 0\n");
        for (int wave = 2; wave <= 15; wave++) {
            rows.append("order 5 0 15\nplan = 0\njoin 1 ").append(wave).append(" = ").append(10 + 5 * wave).append('\n');
        }
        return rows.toString();
    }
}
