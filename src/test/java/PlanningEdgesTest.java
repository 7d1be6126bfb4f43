/** The terms of planning: every boundary that the document names. */
final class PlanningEdgesTest {
    public static void main(String[] args) {
        beginnings();
        withinTheCapacity();
        whichIsAdded();
        whatIsNotAdded();
        Check.end();
    }

    private static void beginnings() {
        Rows.hold("the free one with the least due time begins a wave", """
            new 15
            hour 0 0 100000
            order {100000 2 1 99999 0} 0 15
            plan = 0
            wave {0..4} = {5 3 2 4 1}
            """);
        Rows.hold("of equal ones the lowest number", """
            new 15
            hour 0 0 9
            16 x order 7 0 15
            plan = 0
            wave {0..15} = {1 2 3 4 5 6 7 8 9 10 11 12 13 14 15 16}
            """);
        Rows.hold("if its seconds alone are within the capacity (else it stays free and the next one is looked at)", """
            new 50
            hour 0 0 9
            order {1 2 3 4} {0 2 4 6} {51 50 10000 49}
            plan = 0
            wave {0..3} = {0 1 0 2}
            plan = 0                   -- looked at again in another planning, and again too long
            count {1 2} = 2
            """);
        Rows.hold("else it stays free: all of them", """
            new 9
            hour 0 0 9
            16 x order 5 0 10
            plan = 0
            count {1 2} = {0 16}
            """);
        Rows.hold("all free orders whose due time fits their carrier: those that do not stay free", """
            new 65536
            hour 0 3 5
            hour 1 6 6
            order {2 3 4 5 6 6 5} 0 100
            carrier {5 6} 1
            plan = 20
            wave {0..6} = {0 1 1 1 0 2 0}
            told {1 2} 4 = {0 1}
            """);
        Rows.hold("waves of all free orders: those of late orders and of older waves are not made anew", """
            new 65536
            hour 0 0 9
            order {1 2} 0 100
            plan = 10
            order {3 4 5} 0 100
            cutoff 0 1 = 1
            cutoff 0 3 = 2
            plan = 10
            wave {0..4} = {-1 -1 -1 2 2}
            """);
    }

    private static void withinTheCapacity() {
        Rows.hold("the wave's seconds with it are within the capacity: just so many, the saving counted", """
            new 90
            hour 0 0 9
            order {1 2} 0 50
            plan = 10
            told 1 {0 2} = {90 2}
            """);
        Rows.hold("the wave's seconds with it are within the capacity: one too many", """
            new 89
            hour 0 0 9
            order {1 2} 0 50
            plan = 0
            told {1 2} 0 = 50
            """);
        Rows.hold("the wave's seconds with it are within the capacity: just so many, with no saving", """
            new 100
            hour 0 0 9
            order {1 2} {0 2} 50
            plan = 0
            told 1 {0 2} = {100 2}
            """);
        Rows.hold("the wave's seconds with it are within the capacity: one too many, with no saving", """
            new 99
            hour 0 0 9
            order {1 2} {0 2} 50
            plan = 0
            count 1 = 2
            """);
        Rows.hold("till none may: a full wave still takes one that is saved whole", """
            new 50
            hour 0 0 9
            order {1 2 3 4} {0 0 0 1} {50 11 10 5}
            plan = 15
            wave {0..3} = {1 2 1 1}
            told 1 {0 1} = {50 15}
            """);
        Rows.hold("again and again: one that is too long is passed over, a shorter one of less saving comes", """
            new 100
            hour 0 0 9
            order {1 2 3 4} {0 0 1 7} {50 61 50 5}
            plan = 5
            wave {0..3} = {1 2 1 1}
            member 1 {0 1 2} = {0 2 3}
            told {1 2} 0 = {100 61}
            """);
    }

    private static void whichIsAdded() {
        Rows.hold("the one with the greatest saving, though others are due before and have lower numbers", """
            new 65536
            hour 0 0 100
            order {1 2 3 4 100} {0 5 1 0 0} 50
            line 0 9 1
            line 4 9 1
            plan = 28
            member 1 {0..4} = {0 4 3 2 1}
            """);
        Rows.hold("the greatest saving with one of the wave: greater by 1", """
            new 65536
            hour 0 0 100
            order {1 2 3} 0 {50 9 10}
            plan = 19
            member 1 {0 1 2} = {0 2 1}
            """);
        Rows.hold("the greatest saving with one of the wave: with one that came last", """
            new 65536
            hour 0 0 100
            order {1 2 3 4} {0 4 2 1} 50
            plan = 10
            member 1 {0..3} = {0 3 2 1}
            """);
        Rows.hold("of equal ones that with the least due time", """
            new 65536
            hour 0 0 100
            order {1 9 8 100 7} 0 50
            plan = 40
            member 1 {0..4} = {0 4 2 1 3}
            """);
        Rows.hold("then the lowest number", """
            new 65536
            hour 0 0 100
            order {1 3 2 3 2 3} 0 50
            plan = 50
            member 1 {0..5} = {0 2 4 1 3 5}
            """);
        Rows.hold("even if the saving is 0: then, too, the least due time and the lowest number", """
            new 65536
            hour 0 0 100
            order {1 9 8 8} {0 2 4 6} 50
            plan = 0
            member 1 {0..3} = {0 2 3 1}
            """);
        Rows.hold("no more than the lesser one's seconds makes two equal", """
            new 65536
            hour 0 0 100
            order {1 3 2} {0 0 1} {5 50 50}
            plan = 10
            member 1 {0 1 2} = {0 2 1}
            """);
    }

    private static void whatIsNotAdded() {
        Rows.hold("same carrier: another one's order begins a wave of its own", """
            new 65536
            hour {0..3} 0 9
            order {1 2 3 4 5} 0 50
            carrier {1 3} 3
            plan = 30
            wave {0..4} = {1 2 1 2 1}
            told {1 2} 4 = {0 3}
            """);
        Rows.hold("the free ones that may be added: not one whose due time does not fit", """
            new 65536
            hour 0 2 3
            order {2 4 1 3} {0 0 0 7} 50
            plan = 0
            wave {0..3} = {1 0 0 1}
            """);
        Rows.hold("waves are made one after the other: none is added to an older one with room", """
            new 65536
            hour 0 0 9
            order 5 0 50
            plan = 0
            order 5 0 50
            plan = 0
            wave {0 1} = {1 2}
            told {1 2} 2 = 1
            """);
        Rows.hold("An order looked at is not looked at twice as a beginning in one planning: it ends", """
            new 0
            hour 0 0 9
            16 x order 5 0 1
            plan = 0
            plan = 0
            count {1 2} = {0 16}
            """);
    }
}
