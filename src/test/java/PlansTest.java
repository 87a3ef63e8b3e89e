import java.util.NoSuchElementException;

/** Promises 27 to 30: predictions and ranks. */
public final class PlansTest {
    private static final Class<NoSuchElementException> NO_TRAIN = NoSuchElementException.class;
    private static final Class<IllegalStateException> STATE = IllegalStateException.class;

    public static void main(String[] args) {
        arrivalAlone();
        arrivalAloneRefused();
        predictedArrival();
        predictedArrivalAtTheLimit();
        stuckTrains();
        predictionsChangeNothing();
        ranks();
        ranksRefused();
        Due.end();
    }

    private static void arrivalAlone() {
        SingleTrackLine x = Scenes.line(1, 1, 1, 7, 1, 3);
        x.addTrain(0, 2, 10);
        x.addTrain(2, 0, 9);
        x.addTrain(1, 0, 8);
        x.addTrain(0, 1, 9);
        Due.is("27: 0 to 2", x.arrivalAlone(1), 22);
        Due.is("27: 2 to 0", x.arrivalAlone(2), 21);
        Due.is("27: 1 to 0", x.arrivalAlone(3), 16);
        x.hold(1);
        Due.is("27: as if it were not held", x.arrivalAlone(1), 22);
        Due.is("27: it is held still", x.isHeld(1), true);
        x.hold(2);
        x.advance(9);
        Due.is("27: one minute before its departure", x.arrivalAlone(1), 22);
        SingleTrackLine y = Scenes.line(1, 1, 1, 30, 1, 30, 1, 30, 1, 30, 1, 30, 1, 30);
        y.addTrain(0, 6, 99);
        Due.is("27: the longest way", y.arrivalAlone(1), 285);
    }

    private static void arrivalAloneRefused() {
        int[] wrong = {0, -1, 5, 6, Integer.MIN_VALUE, Integer.MAX_VALUE};
        for (int number : wrong) {
            Scenes.refused("27: arrivalAlone(" + number + ")", Scenes::busy, NO_TRAIN, x -> x.arrivalAlone(number));
        }
        Scenes.refused("27: in a section", Scenes::busy, STATE, x -> x.arrivalAlone(1));
        Scenes.refused("27: at a station", Scenes::busy, STATE, x -> x.arrivalAlone(2));
        SingleTrackLine late = Scenes.line(1, 1, 1, 7);
        late.addTrain(0, 1, 1);
        late.hold(1);
        late.addTrain(0, 1, 5);
        late.advance(4);
        Due.is("27: departure in a minute", late.arrivalAlone(2), 13);
        late.advance(1);
        Due.is("27: expected, but late", late.isExpected(2), true);
        Due.fails("27: departure now", STATE, () -> late.arrivalAlone(2));
        late.advance(1);
        Due.fails("27: departure a minute ago", STATE, () -> late.arrivalAlone(2));
    }

    private static void predictedArrival() {
        SingleTrackLine x = Scenes.busy();
        x.releaseTrain(3);
        x.setTracks(1, 2);
        x.advance(1);
        Due.is("28: drawing", Scenes.drawing(x), "[3]>1[]<2[]");
        Due.is("28: train 1", x.predictedArrival(1), 19);
        Due.is("28: train 2 waits for the token", x.predictedArrival(2), 23);
        Due.is("28: train 3 waits for both", x.predictedArrival(3), 37);
        Due.is("28: train 4 is expected", x.predictedArrival(4), 60);
        x.advance(7);
        Due.is("28: the same prediction later", x.predictedArrival(3), 37);
        x.advance(23);
        Due.is("28: it comes true", x.lastFinished(), 3);
        Due.is("28: at this time", x.time(), 37);
        int[] wrong = {0, -1, 1, 2, 3, 5, Integer.MIN_VALUE, Integer.MAX_VALUE};
        for (int number : wrong) {
            Due.fails("28: predictedArrival(" + number + ")", NO_TRAIN, () -> x.predictedArrival(number));
        }
        SingleTrackLine held = Scenes.busy();
        Due.fails("28: a held train does not arrive", NO_TRAIN, () -> held.predictedArrival(3));
    }

    private static void predictedArrivalAtTheLimit() {
        SingleTrackLine x = queue(83);
        Due.is("28: arrives in 300 minutes", x.predictedArrival(6), 300);
        Due.is("29: arrives in 300 minutes", x.stuckTrains(), 0);
        SingleTrackLine y = queue(84);
        Due.fails("28: arrives in 301 minutes", NO_TRAIN, () -> y.predictedArrival(6));
        Due.is("29: arrives in 301 minutes", y.stuckTrains(), 1);
        y.advance(1);
        Due.is("28: a minute later", y.predictedArrival(6), 301);
        Due.is("29: a minute later", y.stuckTrains(), 0);
    }

    /**
     * Six trains that depart in so many minutes and go through one section of 30 minutes, one after the other; the
     * last one goes on through sections of 5 and 29 minutes and arrives after 1 + 6 * 30 + 1 + 5 + 1 + 29 = 217 more.
     */
    private static SingleTrackLine queue(int minutes) {
        SingleTrackLine x = Scenes.line(1, 1, 1, 30, 1, 5, 1, 29);
        for (int i = 0; i < 5; i++) {
            x.addTrain(0, 1, minutes);
        }
        x.addTrain(0, 3, minutes);
        return x;
    }

    private static void stuckTrains() {
        SingleTrackLine x = Scenes.busy();
        Due.is("29: train 3 is held", x.stuckTrains(), 1);
        x.releaseTrain(3);
        Due.is("29: none", x.stuckTrains(), 0);
        Due.is("29: without trains", Scenes.line(1, 1, 1, 1).stuckTrains(), 0);
        SingleTrackLine y = Scenes.line(1, 1, 1, 1);
        for (int i = 0; i < 6; i++) {
            y.hold(y.addTrain(0, 1, 99));
        }
        Due.is("29: six held and expected", y.stuckTrains(), 6);
        SingleTrackLine z = Scenes.line(1, 1, 1, 1, 1, 1, 1, 1);
        z.addTrain(0, 3, 1);
        z.addTrain(3, 0, 1);
        z.addTrain(0, 1, 2);
        Due.is("29: two that stand against each other", z.stuckTrains(), 2);
        Due.fails("28: one of the two", NO_TRAIN, () -> z.predictedArrival(1));
        Due.is("28: the third one arrives", z.predictedArrival(3), 5);
        z.setTracks(1, 2);
        Due.is("29: with a second track at station 1", z.stuckTrains(), 0);
    }

    private static void predictionsChangeNothing() {
        SingleTrackLine x = Scenes.crowded();
        SingleTrackLine twin = Scenes.crowded();
        x.stuckTrains();
        x.isConsistent();
        x.predictedArrival(2);
        x.addTrain(2, 0, 40);
        twin.addTrain(2, 0, 40);
        x.arrivalAlone(7);
        x.stuckTrains();
        Due.is("27 to 29: nothing changes", Scenes.drawing(x), Scenes.drawing(twin));
        Due.is("27 to 29: nothing changes", Scenes.state(x), Scenes.state(twin));
        Due.is("27 to 29: no call is added for undo", x.undo(), twin.undo());
    }

    private static void ranks() {
        SingleTrackLine x = Scenes.line(4, 1, 1, 10, 4, 10);
        x.addTrain(0, 2, 9);
        x.addTrain(0, 1, 9);
        x.addTrain(2, 1, 9);
        x.addTrain(2, 1, 3);
        Due.is("30: by planned arrival", ranking(x), "4 2 3 1 ");
        x.addTrain(1, 0, 3);
        x.addTrain(1, 2, 20);
        Due.is("30: by number in the end", ranking(x), "4 5 2 3 1 6 ");
        x.hold(4);
        x.advance(11);
        Due.is("30: waiting", x.waitedMinutes(1) * 100 + x.waitedMinutes(2) * 10 + x.waitedMinutes(3), 220);
        Due.is("30: waited minutes first, then the plan", ranking(x), "2 1 4 5 3 6 ");
        x.cancelTrain(2);
        Due.is("30: without the first", ranking(x), "1 4 5 3 6 ");
        x.advance(30);
        Due.is("30: after they finished", ranking(x), "6 4 ");
    }

    private static String ranking(SingleTrackLine x) {
        StringBuilder text = new StringBuilder();
        for (int rank = 0; rank < x.trainCount(); rank++) {
            text.append(x.trainAtRank(rank)).append(' ');
        }
        return text.toString();
    }

    private static void ranksRefused() {
        int[] wrong = {-1, 4, 5, 6, Integer.MIN_VALUE, Integer.MAX_VALUE};
        for (int rank : wrong) {
            Scenes.refused("30: trainAtRank(" + rank + ")", Scenes::busy, NO_TRAIN, x -> x.trainAtRank(rank));
        }
        Due.fails("30: without trains", NO_TRAIN, () -> new SingleTrackLine().trainAtRank(0));
        Due.is("30: the last rank", Scenes.busy().trainAtRank(3), 4);
    }
}
