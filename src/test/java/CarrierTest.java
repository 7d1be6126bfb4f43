/** Promise 4. */
final class CarrierTest {
    public static void main(String[] args) {
        WavePlans x = new WavePlans(100);
        x.order(5, 0, 10);
        x.order(6, 0, 10);
        Check.refused("order -1", Check.NOT_THERE, () -> x.carrier(-1, 0));
        Check.refused("order 2 of two, wrong carrier", Check.NOT_THERE, () -> x.carrier(2, 4));
        Check.refused("carrier -1", Check.NOT_IN_RANGE, () -> x.carrier(0, -1));
        Check.refused("carrier 4", Check.NOT_IN_RANGE, () -> x.carrier(0, 4));
        x.carrier(0, 3);
        x.carrier(1, 3);
        x.carrier(1, 0);
        x.hour(3, 0, 10);
        x.plan();
        Check.due("an order of the carrier with hours", x.wave(0), 1);
        Check.due("an order that is of carrier 0 again", x.wave(1), 0);
        Check.due("carrier of the wave", x.told(1, 4), 3);
        Check.refused("in a wave", Check.NOT_NOW, () -> x.carrier(0, 3));
        Check.refused("in a wave, wrong carrier", Check.NOT_IN_RANGE, () -> x.carrier(0, 4));
        x.cutoff(0, 10);
        Check.refused("late", Check.NOT_NOW, () -> x.carrier(1, 1));
        x.release(1);
        Check.refused("in a released wave", Check.NOT_NOW, () -> x.carrier(0, 1));
        x.done(0);
        Check.refused("done", Check.NOT_NOW, () -> x.carrier(0, 1));
        Check.due("carrier of the wave, still", x.told(1, 4), 3);
        Check.end();
    }
}
