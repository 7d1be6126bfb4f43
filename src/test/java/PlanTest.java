/** Promise 7, and the terms of saving and planning. */
final class PlanTest {
    public static void main(String[] args) {
        checkSavings();
        checkSavedOfAWave();
        checkBeginnings();
        checkAdditions();
        checkCapacity();
        checkNewWavesAlone();
        checkRoomForWaves();
        checkNothingPlanned();
        checkEmptyWavesCount();
        Check.end();
    }

    private static WavePlans open(int capacity) {
        WavePlans x = new WavePlans(capacity);
        for (int carrier = 0; carrier < 4; carrier++) {
            x.hour(carrier, 0, 1000);
        }
        return x;
    }

    private static int savingOf(int zone, int otherZone, int seconds, int otherSeconds, int goods) {
        WavePlans x = open(65536);
        x.order(1, zone, seconds);
        x.order(2, otherZone, otherSeconds);
        for (int good = 0; good < 4; good++) {
            x.line(0, good, 1);
            x.line(1, good < goods ? good : good + 4, 100);
        }
        return x.plan();
    }

    private static void checkSavings() {
        Check.due("one zone", savingOf(3, 3, 100, 100, 0), 10);
        Check.due("the next zone", savingOf(3, 4, 100, 100, 0), 5);
        Check.due("the zone before", savingOf(3, 2, 100, 100, 0), 5);
        Check.due("two zones on", savingOf(3, 5, 100, 100, 0), 0);
        Check.due("two zones back", savingOf(3, 1, 100, 100, 0), 0);
        Check.due("the last zone and the first", savingOf(7, 0, 100, 100, 0), 0);
        for (int goods = 1; goods <= 4; goods++) {
            Check.due(goods + " goods of both, zones apart", savingOf(0, 7, 100, 100, goods), 3 * goods);
            Check.due(goods + " goods of both, one zone", savingOf(0, 0, 100, 100, goods), 10 + 3 * goods);
            Check.due(goods + " goods of both, neighbours", savingOf(0, 1, 100, 100, goods), 5 + 3 * goods);
        }
        Check.due("all but one second of the first", savingOf(0, 0, 21, 100, 4), 21);
        Check.due("no more than the first one's seconds", savingOf(0, 0, 3, 100, 4), 3);
        Check.due("no more than the second one's seconds", savingOf(0, 0, 100, 4, 4), 4);
        Check.due("just the lesser one's seconds", savingOf(0, 0, 22, 100, 4), 22);
    }

    /** The greatest saving with any order before, not the sum, and not with one behind. */
    private static void checkSavedOfAWave() {
        WavePlans x = open(65536);
        x.order(1, 2, 100);
        x.order(2, 4, 100);
        x.order(3, 3, 100);
        x.order(4, 2, 100);
        Check.due("10 with 0, 5 with both, 5 with 2", x.plan(), 20);
        Check.due("first", x.member(1, 0), 0);
        Check.due("then 10 of one zone", x.member(1, 1), 3);
        Check.due("then 5 of a neighbour, though 1 is sooner", x.member(1, 2), 2);
        Check.due("then 5 by the one that came last", x.member(1, 3), 1);
        Check.due("seconds", x.told(1, 0), 380);
        Check.due("saved", x.told(1, 1), 20);
    }

    private static void checkBeginnings() {
        WavePlans x = open(100);
        x.order(9, 0, 100);
        x.order(5, 0, 100);
        x.order(5, 0, 100);
        x.order(4, 0, 101);
        x.order(0, 0, 100);
        Check.due("waves of one order each save nothing", x.plan(), 0);
        Check.due("the soonest begins", x.wave(4), 1);
        Check.due("of equal ones the lowest number", x.wave(1), 2);
        Check.due("then the next", x.wave(2), 3);
        Check.due("then the last one", x.wave(0), 4);
        Check.due("over the capacity it stays free", x.wave(3), 0);
        Check.due("just four waves", x.count(1), 4);
        Check.due("again: nothing more", x.plan(), 0);
        Check.due("still four waves", x.count(1), 4);
    }

    private static void checkAdditions() {
        WavePlans x = open(65536);
        x.order(9, 3, 50);
        x.order(10, 7, 50);
        x.order(12, 4, 50);
        x.order(11, 2, 50);
        x.order(11, 4, 50);
        x.order(20, 3, 50);
        x.order(8, 3, 50);
        x.carrier(1, 2);
        x.order(30, 0, 50);
        x.plan();
        int[] first = {6, 0, 5, 3, 4, 2, 7};
        for (int i = 0; i < first.length; i++) {
            Check.due("member " + i, x.member(1, i), first[i]);
        }
        Check.due("all of carrier 0, even one that saves nothing", x.told(1, 2), first.length);
        Check.due("the one of carrier 2 is apart", x.wave(1), 2);
        Check.due("its carrier", x.told(2, 4), 2);
        checkOneThatDoesNotFit();
    }

    private static void checkOneThatDoesNotFit() {
        WavePlans x = new WavePlans(65536);
        x.hour(0, 5, 6);
        x.order(5, 0, 50);
        x.order(7, 0, 50);
        x.order(4, 0, 50);
        x.order(6, 7, 50);
        Check.due("only what fits", x.plan(), 0);
        Check.due("orders", x.told(1, 2), 2);
        Check.due("due behind the hour", x.wave(1), 0);
        Check.due("due before it", x.wave(2), 0);
    }

    private static void checkCapacity() {
        for (int capacity = 150; capacity <= 151; capacity++) {
            WavePlans x = open(capacity);
            x.order(1, 0, 100);
            x.order(2, 0, 61);
            x.order(3, 5, 50);
            Check.due("saved within " + capacity, x.plan(), capacity == 151 ? 10 : 0);
            Check.due("the one that saves 10 and makes 151, within " + capacity, x.wave(1), capacity == 151 ? 1 : 2);
            Check.due("the one that saves 0 and makes 150, within " + capacity, x.wave(2), capacity == 151 ? 2 : 1);
        }
        WavePlans full = open(100);
        full.order(1, 0, 100);
        full.order(2, 0, 10);
        full.order(3, 0, 11);
        full.order(4, 1, 5);
        Check.due("all of an order's seconds may be saved", full.plan(), 15);
        Check.due("10 for nothing", full.wave(1), 1);
        Check.due("1 too many", full.wave(2), 2);
        Check.due("5 for nothing", full.wave(3), 1);
        Check.due("seconds just at the capacity", full.told(1, 0), 100);
    }

    private static void checkNewWavesAlone() {
        WavePlans x = open(65536);
        x.order(1, 0, 100);
        x.order(2, 0, 100);
        Check.due("the first planning", x.plan(), 10);
        x.order(3, 0, 100);
        x.order(4, 1, 100);
        Check.due("the second one: its own savings", x.plan(), 5);
        Check.due("orders do not come into older waves", x.told(1, 2), 2);
        Check.due("but into a new one", x.told(2, 2), 2);
        Check.due("saved in all", x.count(5), 15);
    }

    private static WavePlans waves(int n) {
        WavePlans x = open(100);
        for (int i = 0; i < n; i++) {
            x.order(i, 0, 100);
        }
        x.plan();
        return x;
    }

    private static void checkRoomForWaves() {
        WavePlans x = waves(16);
        Check.due("sixteen waves", x.count(1), 16);
        Check.due("the last one", x.wave(15), 16);
        Check.due("nothing to plan needs no room", x.plan(), 0);
        x.change(3, 2000);
        Check.due("what does not fit needs no room", x.plan(), 0);
        x.change(3, 900);
        Check.refused("the 17th wave", Check.NO_ROOM, x::plan);
        Check.due("it stays free", x.wave(3), 0);
        Check.due("waves", x.count(1), 15);
        Check.refused("wave 17", Check.NOT_THERE, () -> x.told(17, 0));
    }

    /** One more wave would have room, two have not: then neither is planned. */
    private static void checkNothingPlanned() {
        WavePlans x = waves(15);
        x.change(0, 2000);
        x.change(0, 0);
        x.order(0, 5, 100);
        x.stock(2, 7);
        Check.refused("two waves where one has room", Check.NO_ROOM, x::plan);
        Check.due("the first is free", x.wave(0), 0);
        Check.due("the second is free", x.wave(15), 0);
        Check.due("waves", x.count(1), 14);
        Check.due("free orders", x.count(2), 2);
        Check.refused("wave 16 is not there", Check.NOT_THERE, () -> x.told(16, 0));
        Check.refused("again", Check.NO_ROOM, x::plan);
        Check.due("a line of one that is free", x.line(15, 2, 7), 1);
        x.carrier(15, 3);
        x.change(0, 2000);
        Check.due("one wave has room", x.plan(), 0);
        Check.due("it is wave 16", x.wave(15), 16);
        Check.due("it has one order", x.told(16, 2), 1);
        Check.due("of carrier 3", x.told(16, 4), 3);
        Check.due("it is planned", x.told(16, 5), 0);
        Check.due("it can be released", x.release(16), 0);
    }

    private static void checkEmptyWavesCount() {
        WavePlans x = open(100);
        x.order(5, 0, 10);
        for (int w = 1; w <= 16; w++) {
            Check.due("planning " + w, x.plan(), 0);
            Check.due("wave " + w, x.wave(0), w);
            Check.due("it leaves", x.change(0, 2000), true);
            Check.due("no wave with orders", x.count(1), 0);
            x.change(0, 5);
        }
        Check.refused("sixteen empty waves", Check.NO_ROOM, x::plan);
        Check.due("it is free", x.wave(0), 0);
    }
}
