/** Promise 8. */
final class WaveTest {
    public static void main(String[] args) {
        WavePlans x = new WavePlans(50);
        x.order(5, 0, 50);
        x.order(6, 0, 50);
        x.order(90, 0, 50);
        Check.refused("order -1", Check.NOT_THERE, () -> x.wave(-1));
        Check.refused("order 3 of three", Check.NOT_THERE, () -> x.wave(3));
        Check.refused("order 16", Check.NOT_THERE, () -> x.wave(16));
        Check.refused("far outside", Check.NOT_THERE, () -> x.wave(Integer.MIN_VALUE));
        Check.due("free", x.wave(0), 0);
        x.hour(0, 0, 10);
        x.plan();
        Check.due("in wave 1", x.wave(0), 1);
        Check.due("in wave 2", x.wave(1), 2);
        Check.due("free, it does not fit", x.wave(2), 0);
        x.release(1);
        x.done(0);
        Check.due("done, it is kept", x.wave(0), 1);
        x.change(1, 11);
        Check.due("free again", x.wave(1), 0);
        x.cutoff(0, 100);
        Check.due("late", x.wave(1), -1);
        Check.due("late too", x.wave(2), -1);
        Check.due("not late, it is released", x.wave(0), 1);
        Check.end();
    }
}
