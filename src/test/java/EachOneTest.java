import java.util.stream.Collectors;
import java.util.stream.IntStream;

/** What the document says of hours, goods, places in a wave and waves holds of each one, the first to the last. */
final class EachOneTest {
    public static void main(String[] args) {
        hours();
        goods();
        places();
        leavingAPlace();
        joinedSizes();
        othersWants();
        savedByEachWave();
        undoneWaves();
        secondBeginnings();
        Check.end();
    }

    private static void hours() {
        Rows.hold("A time FITS a carrier if one of its hours has it: each of ten, both ends counted", """
            new 15
            hour {0 1 2 3 0 1 2 3 0 1} {1 11 21 31 41 51 61 71 81 91} {3 13 23 33 43 53 63 73 83 93} = {1 1 1 1 2 2 2 2 3 3}
            order {3 13 23 33 43 53 63 73 83 93} 0 15
            carrier {0..9} {0 1 2 3 0 1 2 3 0 1}
            plan = 0
            wave {0..9} = {1 2 3 4 5 6 7 8 9 10}
            change {0..9} {1 11 21 31 41 51 61 71 81 91} = false
            change {0 2 4 6 8} {0 20 40 60 80} = true
            change {1 3 5 7 9} {14 34 54 74 94} = true
            """);
    }

    private static void goods() {
        for (int good = 0; good <= 9; good++) {
            Rows.hold("3 for each good that both have lines of: good " + good, "new 100\nhour 0 0 9\norder 5 {0 7} 20\n"
                + "line {0 1} " + good + " 1\nplan = 3\ntold 1 {0 1} = {37 3}\n");
        }
        Rows.hold("its lines are taken from the stock: each good", """
            new 100
            hour 0 0 9
            3 x order 5 0 10
            line 0 {0..3} 5
            line 1 {4..7} 5
            line 2 {8 9} 5
            stock {0..9} 7
            plan = 20
            release 1 = 0
            done {0 1 2} = {2 1 0}
            3 x order 5 0 10
            line 3 {0..3} 3
            line 4 {4..7} 3
            line 5 {8 9} 3
            plan = 20
            lacks 2 {0..9} = 1
            stock {0..9} 3
            release 2 = 0
            """);
    }

    private static void places() {
        for (int place = 0; place <= 14; place++) {
            StringBuilder rows = new StringBuilder("new 65536\nhour 0 0 9\n");
            for (int order = 0; order <= 15; order++) {
                rows.append("order 5 ").append(order == place || order == 15 ? 7 : 0).append(" 100\nplan = 0\n");
            }
            rows.append("join 1 {2..16}\nwave {0..15} = 1\ntold 1 {0 1 2} = {1460 140 16}\n");
            Rows.hold("the greatest saving with one that came into it before: with the one at place " + place, rows.toString());
        }
        StringBuilder rows = new StringBuilder("new 65536\nhour 0 0 100\n16 x order 50 0 10\nplan = 150\n");
        for (int order = 0; order <= 15; order++) {
            rows.append("change ").append(order).append(" 49 = false\ntold 1 3 = 49\n");
            rows.append("change ").append(order).append(" 51 = false\ntold 1 3 = ").append(order < 15 ? 50 : 51).append('\n');
        }
        Rows.hold("A wave's due time is the least one of its orders: that of each place", rows.toString());
    }

    private static void leavingAPlace() {
        for (int place = 0; place <= 15; place++) {
            int left = place;
            String others = numbers(IntStream.rangeClosed(0, 15).filter(order -> order != left));
            String sixteen = "new 65536\nhour 0 0 20\norder {0..15} 0 10\nplan = 150\nmember 1 " + place + " = " + place + "\n";
            String fifteen = "\nmember 1 {0..14} = {" + others + "}\nmember 1 15 ! NoSuchElementException\ntold 1 {0 1 2} = {10 140 15}\n";
            Rows.hold("it left its wave, the others as they came: place " + place, sixteen + "change " + place + " 21 = true" + fifteen);
            Rows.hold("They leave their waves, the others as they came: place " + place, "new 65536\nhour 0 0 20\norder {0..15} 0 10\n"
                + "plan = 150\nchange " + place + " 0 = false\nchange 0 " + (place == 0 ? 0 : 16) + " = false\ncutoff 0 0 = 1" + fifteen);
        }
    }

    private static void joinedSizes() {
        for (int size = 1; size <= 15; size++) {
            String first = numbers(IntStream.range(0, size));
            String second = numbers(IntStream.range(size, 16));
            String waves = "new 65536\nhour 0 0 20\norder {" + first + "} 0 10\nplan\norder {" + second + "} 0 10\nplan\n";
            String sizes = "the second one's orders behind the first one's: " + size + " and " + (16 - size);
            Rows.hold(sizes, waves + "join 1 2 = 10\nwave {0..15} = 1\nmember 1 {0..15} = {" + first + " " + second + "}\n");
            Rows.hold(sizes + ", the other way round",
                waves + "join 2 1 = 10\nwave {0..15} = 2\nmember 2 {0..15} = {" + second + " " + first + "}\n");
        }
    }

    private static void othersWants() {
        Rows.hold("all that other released waves want is taken from it: each of sixteen waves", """
            new 15
            hour 0 0 9
            16 x order 5 0 15
            line {0..15} 7 {1 2 3 4 5 6 7 8 9 10 11 12 13 14 15 16}
            stock 7 136
            plan = 0
            release {1..16} = 0
            lacks {1..16} 7 = 0
            replenish {1..16} 0 = -1
            stock 7 135
            lacks {1..16} 7 = 1
            replenish {1..16} 0 = 7
            stock 7 0
            lacks {1..16} 7 = {1 2 3 4 5 6 7 8 9 10 11 12 13 14 15 16}
            """);
        Rows.hold("all that other released waves want: each order of them that is not done, whatever its carrier", """
            new 65536
            hour {1 3} 0 9
            4 x order 5 0 100
            line {0..3} 7 {10 20 30 40}
            carrier {0..3} {1 1 1 3}
            stock 7 100
            plan = 26
            release 1 = 0
            lacks 2 7 = 0
            stock 7 99
            lacks 2 7 = 1
            done 1 = 2                 -- 79 there, 10 and 30 wanted
            lacks 2 7 = 1
            stock 7 80
            lacks 2 7 = 0
            release 2 = 0
            stock 7 79
            lacks {1 2} 7 = 1
            """);
    }

    private static void savedByEachWave() {
        Rows.hold("how many seconds the new waves save, and all waves: waves 1 to 8", """
            new 20
            hour 0 0 9
            16 x order 5 0 15
            plan = 80
            told {1..8} 1 = 10
            count {1 5} = {8 80}
            """);
        String eight = "plan = 0\nchange 0 10 = true\nchange 0 5 = false\n".repeat(8);
        Rows.hold("how many seconds the new waves save, and all waves: waves 9 to 16", "new 20\nhour 0 0 9\norder 5 0 15\n" + eight + """
            15 x order 5 0 15
            plan = 80
            told {9..16} 1 = 10
            count {1 5} = {8 80}
            """);
    }

    private static void undoneWaves() {
        String sentence = "nothing is planned: each order is as it was, each number is given to the next planning, ";
        Rows.hold(sentence + "due as they are numbered", """
            new 15
            hour 0 0 20
            order 0 0 15
            plan = 0
            change 0 21 = true
            change 0 0 = false
            order {1..15} 0 15
            plan ! UnsupportedOperationException
            wave {0..15} = 0
            told {1..16} 2 ! NoSuchElementException
            count {1 2 5} = {0 16 0}
            cutoff 0 0 = 1
            plan = 0
            wave {0..15} = {-1 2 3 4 5 6 7 8 9 10 11 12 13 14 15 16}
            told {2..16} 2 = 1
            """);
        Rows.hold(sentence + "the last one due first", """
            new 15
            hour 0 0 20
            order 15 0 15
            plan = 0
            change 0 21 = true
            change 0 15 = false
            order {14 13 12 11 10 9 8 7 6 5 4 3 2 1 0} 0 15
            plan ! UnsupportedOperationException
            wave {0..15} = 0
            told {1..16} 2 ! NoSuchElementException
            cutoff 0 0 = 1
            plan = 0
            wave {0..15} = {16 15 14 13 12 11 10 9 8 7 6 5 4 3 2 -1}
            told {2..16} 2 = 1
            """);
    }

    private static void secondBeginnings() {
        String again = """
            plan = 0
            wave {%1$s} = {1 2 3 4 5 6 7 8}
            change {%1$s} 21 = true
            change {%1$s} 5 = false
            plan = 0
            wave {%1$s} = {9 10 11 12 13 14 15 16}
            """;
        Rows.hold("not looked at twice as a beginning in one planning, but in the next one: orders 0 to 7",
            "new 15\nhour 0 0 20\n8 x order 5 0 15\n" + again.formatted("0 1 2 3 4 5 6 7"));
        Rows.hold("not looked at twice as a beginning in one planning, but in the next one: orders 8 to 15",
            "new 15\nhour 0 0 20\n8 x order 30 0 15\n8 x order 5 0 15\n" + again.formatted("8 9 10 11 12 13 14 15"));
    }

    private static String numbers(IntStream orders) {
        return orders.mapToObj(Integer::toString).collect(Collectors.joining(" "));
    }
}
