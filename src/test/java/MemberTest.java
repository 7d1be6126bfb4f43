/** Promise 10. */
final class MemberTest {
    public static void main(String[] args) {
        WavePlans x = new WavePlans(1000);
        x.hour(0, 0, 9);
        x.order(3, 0, 50);
        x.order(1, 0, 50);
        x.order(2, 7, 50);
        x.order(4, 0, 50);
        x.plan();
        checkMembers(x, 1, 1, 0, 3, 2);
        Check.refused("member -1", Check.NOT_THERE, () -> x.member(1, -1));
        Check.refused("member 4 of four", Check.NOT_THERE, () -> x.member(1, 4));
        Check.refused("member 16", Check.NOT_THERE, () -> x.member(1, 16));
        Check.refused("member far outside", Check.NOT_THERE, () -> x.member(1, Integer.MAX_VALUE));
        Check.refused("wave 0", Check.NOT_THERE, () -> x.member(0, 0));
        Check.refused("wave 2 of one", Check.NOT_THERE, () -> x.member(2, 0));
        Check.refused("wave 17", Check.NOT_THERE, () -> x.member(17, 0));
        Check.refused("wave far outside", Check.NOT_THERE, () -> x.member(Integer.MIN_VALUE, 0));
        x.change(0, 10);
        checkMembers(x, 1, 1, 3, 2);
        x.change(0, 0);
        x.plan();
        checkMembers(x, 2, 0);
        x.change(2, 0);
        checkMembers(x, 1, 1, 3, 2);
        x.cutoff(0, 1);
        checkMembers(x, 1, 3);
        Check.refused("an empty wave", Check.NOT_THERE, () -> x.member(2, 0));
        checkSixteen();
        Check.end();
    }

    private static void checkMembers(WavePlans x, int wave, int... want) {
        Check.due("orders of wave " + wave, x.told(wave, 2), want.length);
        for (int i = 0; i < want.length; i++) {
            Check.due("member(" + wave + ", " + i + ")", x.member(wave, i), want[i]);
        }
        Check.refused("one behind the last", Check.NOT_THERE, () -> x.member(wave, want.length));
    }

    private static void checkSixteen() {
        WavePlans x = new WavePlans(65536);
        x.hour(0, 0, 100);
        int[] want = new int[16];
        for (int i = 0; i < 16; i++) {
            x.order(100 - i, 0, 100);
            want[i] = 15 - i;
        }
        Check.due("saved by sixteen", x.plan(), 150);
        checkMembers(x, 1, want);
    }
}
