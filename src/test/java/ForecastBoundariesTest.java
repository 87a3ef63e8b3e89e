/** The boundary cases of the promises 27 to 30: predictions and ranks. */
public final class ForecastBoundariesTest {
    public static void main(String[] args) throws ReflectiveOperationException {
        Boundaries.ask(ForecastBoundariesTest.class);
    }

    // ---- arrivalAlone

    @Sentence(under = "Promise 27", value = "Returns the time at which an expected train would arrive if there were no "
            + "other trains and it was not held, found by letting minutes pass on a copy.")
    static void aloneOnTheShortestAndLongestWay() {
        SingleTrackLine x = Scenes.line(1, 1, 1, 30, 1, 30, 1, 30, 1, 30, 1, 30, 1, 30);
        Due.is("the longest way", x.arrivalAlone(x.addTrain(0, 6, 99)), 285);
        Due.is("and back", x.arrivalAlone(x.addTrain(6, 0, 99)), 285);
        x.hold(1);
        Due.is("as if it were not held", x.arrivalAlone(1), 285);
        for (int call = 0; call < 480; call++) {
            x.advance(60);
        }
        Due.is("the longest way at a late time", x.arrivalAlone(x.addTrain(6, 0, 99)), 480 * 60 + 285);
        SingleTrackLine y = Scenes.line(1, 1, 1, 1);
        Due.is("the shortest way", y.arrivalAlone(y.addTrain(0, 1, 1)), 3);
        y.addTrain(0, 1, 1);
        y.addTrain(1, 0, 1);
        Due.is("as if there were no other trains", y.arrivalAlone(3), 3);
        Due.is("with them", y.predictedArrival(3), 4);
    }

    @Sentence(under = "Promise 27", value = "Throws `NoSuchElementException` if there is no such train")
    static void aloneNoTrain() {
        Due.is("the last", Scenes.busy().arrivalAlone(4), 60);
        Due.is("the last of six", Scenes.on(Scenes::makeSixTrains).arrivalAlone(6), 13);
        Refusal.ofNoTrain(SingleTrackLine::arrivalAlone);
    }

    @Sentence(under = "Promise 27", value = "Throws `IllegalStateException` if the train is not expected, or its departure "
            + "time is not greater than the time")
    static void aloneAfterItsDeparture() {
        Refusal.of("in a section", Boundaries.STATE, Scenes::makeBusy, x -> x.arrivalAlone(1));
        Refusal.of("at a station", Boundaries.STATE, Scenes::makeBusy, x -> x.arrivalAlone(2));
        Refusal.of("expected, the departure time is the time", Boundaries.STATE, x -> makeLate(x, 5), x -> x.arrivalAlone(2));
        Refusal.of("expected, departed a minute ago", Boundaries.STATE, x -> makeLate(x, 6), x -> x.arrivalAlone(2));
        SingleTrackLine early = Scenes.on(x -> makeLate(x, 4));
        Due.is("expected, departs in a minute", early.arrivalAlone(2), 5 + 7 + 1);
        early.advance(1);
        Due.is("expected, as no track is free", early.isExpected(2), true);
        Due.fails("departs now", Boundaries.STATE, () -> early.arrivalAlone(2));
    }

    /** Train 2 departs at time 5, but train 1 is held on the only track. */
    private static void makeLate(SingleTrackLine x, int time) {
        Scenes.addStations(x, 1, 1, 1, 7);
        x.hold(x.addTrain(0, 1, 1));
        x.addTrain(0, 1, 5);
        x.advance(time);
    }

    // ---- predictedArrival and stuckTrains

    @Sentence(under = "Promise 28", value =
            "Throws `NoSuchElementException` if there is no such train, or it does not arrive within 300 minutes")
    static void within300Minutes() {
        Due.is("the first", Scenes.busy().predictedArrival(4), 60);
        Refusal.ofNoTrain(SingleTrackLine::predictedArrival);
        Refusal.of("a held train", Boundaries.NO_ELEMENT, Scenes::makeBusy, x -> x.predictedArrival(3));
        Due.is("in 299 minutes", Scenes.on(x -> makeQueue(x, 82, 0)).predictedArrival(6), 299);
        Due.is("in 300 minutes", Scenes.on(x -> makeQueue(x, 83, 0)).predictedArrival(6), 300);
        Refusal.of("in 301 minutes", Boundaries.NO_ELEMENT, x -> makeQueue(x, 84, 0), x -> x.predictedArrival(6));
        Due.is("in 300 minutes at time 60", Scenes.on(x -> makeQueue(x, 83, 60)).predictedArrival(6), 360);
        Refusal.of("in 301 minutes at time 60", Boundaries.NO_ELEMENT, x -> makeQueue(x, 84, 60), x -> x.predictedArrival(6));
        SingleTrackLine later = Scenes.on(x -> makeQueue(x, 84, 0));
        later.advance(1);
        Due.is("a minute later", later.predictedArrival(6), 301);
        SingleTrackLine next = Scenes.line(1, 1, 1, 1);
        next.addTrain(0, 1, 1);
        next.advance(2);
        Due.is("in the next minute", next.predictedArrival(1), 3);
        next.advance(1);
        Due.fails("when it has arrived", Boundaries.NO_ELEMENT, () -> next.predictedArrival(1));
    }

    @Sentence(under = "Promise 29", value =
            "Predicts the number of trains that do not arrive at their destinations within 300 minutes.")
    static void notWithin300Minutes() {
        Due.is("without trains", new SingleTrackLine().stuckTrains(), 0);
        Due.is("in 300 minutes", Scenes.on(x -> makeQueue(x, 83, 0)).stuckTrains(), 0);
        Due.is("in 301 minutes", Scenes.on(x -> makeQueue(x, 84, 0)).stuckTrains(), 1);
        Due.is("in 300 minutes at time 60", Scenes.on(x -> makeQueue(x, 83, 60)).stuckTrains(), 0);
        Due.is("in 301 minutes at time 60", Scenes.on(x -> makeQueue(x, 84, 60)).stuckTrains(), 1);
        SingleTrackLine x = Scenes.on(Scenes::makeSixTrains);
        for (int number = 1; number <= 6; number++) {
            x.hold(number);
        }
        Due.is("six that are held", x.stuckTrains(), 6);
        x.releaseTrain(1);
        Due.is("the first of them is not", x.stuckTrains(), 5);
    }

    /**
     * After some minutes, six trains are added that depart in so many minutes and go through one section of 30 minutes,
     * one after the other; the last one goes on through sections of 5 and 29 minutes and arrives after
     * 1 + 6 * 30 + 1 + 5 + 1 + 29 = 217 more.
     */
    private static void makeQueue(SingleTrackLine x, int minutes, int before) {
        Scenes.addStations(x, 1, 1, 1, 30, 1, 5, 1, 29);
        if (before > 0) {
            x.advance(before);
        }
        for (int i = 0; i < 5; i++) {
            x.addTrain(0, 1, minutes);
        }
        x.addTrain(0, 3, minutes);
    }

    // ---- trainAtRank

    @Sentence(under = "Promise 30", value = "Trains are ranked by waited minutes in descending order, then by planned "
            + "arrival in ascending order, then by number in ascending order.")
    static void equalTrainsByNumber() {
        SingleTrackLine x = Scenes.line(4, 1, 1, 5);
        for (int i = 0; i < 6; i++) {
            x.addTrain(0, 1, i == 4 ? 8 : 9);
        }
        Due.is("one is planned a minute earlier, the others are the same", ranking(x), "5 1 2 3 4 6");
        x.advance(9);
        Due.is("the others are the same still", ranking(x), "5 1 2 3 4 6");
        x.advance(1);
        Due.is("three have waited a minute", ranking(x), "1 2 3 5 4 6");
        x.hold(1);
        x.advance(1);
        Due.is("two of them another minute, and the fourth one, too", ranking(x), "2 3 1 4 5 6");
    }

    private static String ranking(SingleTrackLine x) {
        StringBuilder text = new StringBuilder();
        for (int rank = 0; rank < x.trainCount(); rank++) {
            text.append(x.trainAtRank(rank)).append(' ');
        }
        return text.toString().trim();
    }

    @Sentence(under = "Promise 30", value = "- `rank`: the rank, from 0")
    static void ranksFrom0() {
        SingleTrackLine x = Scenes.line(1, 1, 1, 5);
        x.addTrain(0, 1, 9);
        Due.is("rank 0 of one", x.trainAtRank(0), 1);
        x.addTrain(0, 1, 8);
        Due.is("rank 0 of two", x.trainAtRank(0), 2);
        Due.is("rank 1 of two", x.trainAtRank(1), 1);
        Due.fails("rank -1", Boundaries.NO_ELEMENT, () -> x.trainAtRank(-1));
    }

    @Sentence(under = "Promise 30", value =
            "Throws `NoSuchElementException` if the rank is negative or not less than the number of trains")
    static void noSuchRank() {
        Due.is("the first rank of four", Scenes.busy().trainAtRank(0), 2);
        Due.is("the last rank of four", Scenes.busy().trainAtRank(3), 4);
        for (int rank : Boundaries.outside(0, 3)) {
            Refusal.of("rank " + rank, Boundaries.NO_ELEMENT, Scenes::makeBusy, x -> x.trainAtRank(rank));
        }
        Due.is("the last rank of six", Scenes.on(Scenes::makeSixTrains).trainAtRank(5), 6);
        Refusal.of("rank 6 of six", Boundaries.NO_ELEMENT, Scenes::makeSixTrains, x -> x.trainAtRank(6));
        Refusal.of("rank 0 of none", Boundaries.NO_ELEMENT, Scenes::makeFull, x -> x.trainAtRank(0));
    }
}
