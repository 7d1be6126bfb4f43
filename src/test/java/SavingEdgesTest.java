/** The terms of saving: every boundary that the document names. */
final class SavingEdgesTest {
    public static void main(String[] args) {
        zones();
        goods();
        lesserSeconds();
        savedOfAWave();
        secondsOfAWave();
        Check.end();
    }

    /** Two orders of one wave; the lines come before the planning. */
    private static String two(int zone, int otherZone, int seconds, int otherSeconds, String lines, int saved) {
        return "new 65536\nhour 0 0 9\norder 5 " + zone + " " + seconds + "\norder 5 " + otherZone + " " + otherSeconds + "\n"
            + lines + "\nplan = " + saved + "\ntold 1 {0 1 2} = {" + (seconds + otherSeconds - saved) + " " + saved + " 2}\n";
    }

    private static void zones() {
        for (int zone = 0; zone <= 7; zone++) {
            for (int other = 0; other <= 7; other++) {
                int saved = zone == other ? 10 : zone - other == 1 || other - zone == 1 ? 5 : 0;
                String kind = saved == 10 ? "10 seconds if they are in one zone: "
                    : saved == 5 ? "5 if their zones are neighbours (their numbers differ by 1): " : "their zones differ by more than 1: ";
                Rows.hold(kind + zone + " and " + other, two(zone, other, 100, 100, "", saved));
            }
        }
    }

    private static void goods() {
        String[] shared = {
            "line 0 {0..3} 1\nline 1 {4..7} 1",
            "line 0 {0 1 2 9} 1\nline 1 {5 6 7 9} 100",
            "line 0 {0 1 2 3} 1\nline 1 {3 8 9 0} 100",
            "line 0 {1 2 3 4} 1\nline 1 {2 3 4 5} 100",
            "line 0 {0 4 5 9} 1\nline 1 {9 5 4 0} 100"};
        for (int n = 0; n < shared.length; n++) {
            Rows.hold("3 for each good that both have lines of: " + n + ", zones apart", two(0, 7, 100, 100, shared[n], 3 * n));
            Rows.hold("3 for each good that both have lines of: " + n + ", one zone", two(7, 7, 100, 100, shared[n], 10 + 3 * n));
            Rows.hold("3 for each good that both have lines of: " + n + ", neighbours", two(1, 0, 100, 100, shared[n], 5 + 3 * n));
        }
        Rows.hold("a good that only one has lines of", two(0, 7, 100, 100, "line 0 {0..3} 100", 0));
        Rows.hold("a good that only the other has lines of", two(0, 7, 100, 100, "line 1 {0..3} 100", 0));
    }

    private static void lesserSeconds() {
        String all = "line 0 {0..3} 1\nline 1 {0..3} 1";
        String one = "line 0 9 1\nline 1 9 1";
        for (int seconds = 1; seconds <= 24; seconds++) {
            String sentence = "no more than the lesser one's seconds: " + seconds;
            Rows.hold(sentence + " of 10 in one zone", two(3, 3, seconds, 100, "", Math.min(10, seconds)));
            Rows.hold(sentence + " of 10 in one zone, the second one's", two(3, 3, 100, seconds, "", Math.min(10, seconds)));
            Rows.hold(sentence + " of 10 in one zone, both", two(3, 3, seconds, seconds, "", Math.min(10, seconds)));
            Rows.hold(sentence + " of 5 of neighbours", two(3, 4, seconds, 100, "", Math.min(5, seconds)));
            Rows.hold(sentence + " of 3 for a good", two(0, 7, 100, seconds, one, Math.min(3, seconds)));
            Rows.hold(sentence + " of 22 for a zone and four goods", two(0, 0, seconds, 10000, all, Math.min(22, seconds)));
            Rows.hold(sentence + " of 22, the second one's", two(0, 0, 10000, seconds, all, Math.min(22, seconds)));
        }
    }

    private static void savedOfAWave() {
        Rows.hold("for each order but the first one: a wave of one saves nothing", """
            new 65536
            hour 0 0 9
            order 5 0 100
            line 0 {0..3} 1
            plan = 0
            told 1 {0 1 2} = {100 0 1}
            count 5 = 0
            """);
        Rows.hold("the greatest saving with one that came into it before: not the sum, not the last one's", """
            new 65536
            hour 0 0 9
            order {1 2 3} {3 3 5} 100  -- members as they are due: 0, 1, then 2
            order 9 4 100              -- comes before 2: 5 with 0, 5 with 1
            plan = 20
            member 1 {0..3} = {0 1 3 2}
            told 1 {0 1} = {380 20}
            """);
        Rows.hold("one that came into it before: not one that came behind it", """
            new 65536
            hour 0 0 9
            order 1 0 100
            order 2 2 100              -- 0 with order 0; order 3 comes later
            order 3 7 100
            plan = 0
            order 3 2 100
            order 4 1 100
            plan = 5
            join 1 2 = 485             -- 10 for order 3 with 1, 5 for order 4
            told 1 {0 1} = {485 15}
            join 1 1 ! IllegalStateException
            """);
        Rows.hold("Saved seconds when the one that they were saved with has gone", """
            new 100
            hour 0 0 9
            order {1 2 3} {3 2 4} {10 50 50}
            plan = 10
            told 1 {0 1 2} = {100 10 3}
            change 0 10 = true
            told 1 {0 1 2} = {100 0 2}
            change 1 10 = true
            told 1 {0 1 2} = {50 0 1}
            """);
    }

    private static void secondsOfAWave() {
        Rows.hold("SECONDS of a wave: the most that 16 orders can have within the capacity", """
            new MAX
            hour 0 0 9
            15 x order 5 0 4378
            order 5 7 6
            plan = 140
            told 1 {0 1 2} = {65536 140 16}
            """);
        Rows.hold("SECONDS of a wave: none but the first one's, if all others are saved", """
            new 10
            hour 0 0 9
            16 x order 5 0 10
            plan = 150
            told 1 {0 1 2} = {10 150 16}
            count {1 5} = {1 150}
            """);
        Rows.hold("SECONDS of a wave: the least there are", """
            new 1
            hour 0 0 9
            16 x order 5 0 1
            plan = 15
            told 1 {0 1 2} = {1 15 16}
            """);
    }
}
