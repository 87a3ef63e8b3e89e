/** The boundary cases of the promises 31 to 38: time, totals and the check of the invariants. */
public final class TotalsBoundariesTest {
    public static void main(String[] args) throws ReflectiveOperationException {
        Boundaries.ask(TotalsBoundariesTest.class);
    }

    @Sentence(under = "Promise 31", value = "Returns the number of minutes that have passed.")
    static void minutesThatPassed() {
        SingleTrackLine x = new SingleTrackLine();
        Due.is("none", x.time(), 0);
        Due.fails("a refused minute", Boundaries.ARGUMENT, () -> x.advance(0));
        Due.is("none still", x.time(), 0);
        x.advance(1);
        Due.is("one", x.time(), 1);
        x.undo();
        Due.is("none again", x.time(), 0);
        for (int call = 0; call < 500; call++) {
            x.advance(60);
        }
        Due.is("very many", x.time(), 30000);
    }

    @Sentence(under = "Promise 32", value = "Returns the number of finished trains so far.")
    static void finishedFrom0() {
        SingleTrackLine x = Scenes.line(1, 1, 1, 1);
        Due.is("none", x.finishedTrains(), 0);
        x.addTrain(0, 1, 1);
        x.advance(2);
        Due.is("none a minute before", x.finishedTrains(), 0);
        x.advance(1);
        Due.is("one", x.finishedTrains(), 1);
        for (int count = 2; count <= 160; count++) {
            x.addTrain(0, 1, 1);
            x.advance(3);
            Due.is("so many", x.finishedTrains(), count);
        }
        Due.is("none is left", x.trainCount(), 0);
    }

    /** Train 1 arrives, and then train 2, a minute later than is planned for it. */
    private static SingleTrackLine twoThatArrive() {
        SingleTrackLine x = Scenes.line(2, 1, 1, 2);
        x.addTrain(0, 1, 1);
        x.addTrain(0, 1, 2);
        return x;
    }

    @Sentence(under = "Promise 33", value = "Returns the number of the train; if several trains finished in the same "
            + "minute, it is the one in the section that was visited last.")
    static void severalInTheSameMinute() {
        int[][] ways = {{0, 2}, {2, 0}};
        for (int[] starts : ways) {
            SingleTrackLine x = Scenes.line(1, 1, 1, 3, 1, 3);
            x.addTrain(starts[0], 1, 1);
            x.addTrain(starts[1], 1, 1);
            x.advance(4);
            Due.is("none a minute before", x.finishedTrains(), 0);
            Due.is("two in the same minute", x.advance(1), 2);
            Due.is("the one in section 1", x.lastFinished(), starts[0] == 2 ? 1 : 2);
        }
        SingleTrackLine x = Scenes.line(1, 1, 1, 3, 1, 4);
        x.addTrain(0, 1, 1);
        x.addTrain(2, 1, 1);
        x.advance(5);
        Due.is("the one in section 0, a minute earlier", x.lastFinished(), 1);
        x.advance(1);
        Due.is("the other one", x.lastFinished(), 2);
    }

    @Sentence(under = "Promise 33", value = "Throws `NoSuchElementException` if no train has finished")
    static void noneFinishedLast() {
        Refusal.of("no trains", Boundaries.NO_ELEMENT, Scenes::leaveEmpty, SingleTrackLine::lastFinished);
        Refusal.of("six trains", Boundaries.NO_ELEMENT, Scenes::makeSixTrains, SingleTrackLine::lastFinished);
        SingleTrackLine x = twoThatArrive();
        x.advance(3);
        Due.fails("a minute before", Boundaries.NO_ELEMENT, x::lastFinished);
        x.advance(1);
        Due.is("one has finished", x.lastFinished(), 1);
        x.cancelTrain(x.addTrain(0, 1, 9));
        Due.is("a cancelled one does not count", x.lastFinished(), 1);
        x.undo();
        x.undo();
        x.undo();
        Due.fails("none again", Boundaries.NO_ELEMENT, x::lastFinished);
    }

    @Sentence(under = "Promise 34", value = "Returns the sum of the delays of all finished trains.")
    static void sumOfDelaysFrom0() {
        SingleTrackLine x = twoThatArrive();
        Due.is("none has finished", x.totalDelay(), 0);
        x.advance(4);
        Due.is("one without delay", x.totalDelay(), 0);
        x.advance(2);
        Due.is("one a minute late", x.totalDelay(), 1);

        SingleTrackLine late = Scenes.line(3, 1, 1, 1, 3, 1);
        for (int number = 1; number <= 6; number++) {
            late.hold(late.addTrain(number % 2 * 2, 1, 1));
        }
        for (int call = 16; call <= 490; call++) {
            late.advance(60);
        }
        for (int number = 1; number <= 6; number++) {
            late.releaseTrain(number);
        }
        late.advance(4);
        int first = 475 * 60 + 2 - 3;
        Due.is("six are more than 475 hours late, which needs more than 16 bits", late.totalDelay(), 6 * first + 2 + 4);
        Due.is("the greatest of them", late.greatestDelay(), first + 2);
        Due.isReal("the mean of them", late.meanDelay(), first + 1.0);
        Due.isReal("none is punctual", late.punctualShare(), 0.0f);
    }

    @Sentence(under = "Promise 35", value = "Throws `NoSuchElementException` if no train has finished")
    static void greatestOfNone() {
        Refusal.of("no trains", Boundaries.NO_ELEMENT, Scenes::leaveEmpty, SingleTrackLine::greatestDelay);
        Refusal.of("six trains", Boundaries.NO_ELEMENT, Scenes::makeSixTrains, SingleTrackLine::greatestDelay);
        SingleTrackLine x = twoThatArrive();
        x.advance(3);
        Due.fails("a minute before", Boundaries.NO_ELEMENT, x::greatestDelay);
        x.advance(1);
        Due.is("one without delay", x.greatestDelay(), 0);
        x.advance(2);
        Due.is("one a minute late", x.greatestDelay(), 1);
    }

    @Sentence(under = "Promise 36", value = "Throws `ArithmeticException` if no train has finished")
    static void meanOfNone() {
        Refusal.of("no trains", Boundaries.DIVISION, Scenes::leaveEmpty, SingleTrackLine::meanDelay);
        Refusal.of("six trains", Boundaries.DIVISION, Scenes::makeSixTrains, SingleTrackLine::meanDelay);
        SingleTrackLine x = twoThatArrive();
        x.advance(3);
        Due.fails("a minute before", Boundaries.DIVISION, x::meanDelay);
        x.advance(1);
        Due.isReal("one without delay", x.meanDelay(), 0.0);
        x.advance(2);
        Due.isReal("one of two a minute late", x.meanDelay(), 0.5);
    }

    @Sentence(under = "Promise 37", value = "Returns the share of the finished trains that had the delay 0.")
    static void delay0Only() {
        SingleTrackLine x = twoThatArrive();
        x.advance(4);
        Due.isReal("the delay 0", x.punctualShare(), 1.0f);
        x.advance(2);
        Due.isReal("the delay 1", x.punctualShare(), 0.5f);
        SingleTrackLine y = twoThatArrive();
        y.cancelTrain(1);
        y.hold(2);
        y.advance(3);
        y.releaseTrain(2);
        y.advance(9);
        Due.isReal("none has the delay 0", y.punctualShare(), 0.0f);
    }

    @Sentence(under = "Promise 37", value = "Throws `ArithmeticException` if no train has finished")
    static void shareOfNone() {
        Refusal.of("no trains", Boundaries.DIVISION, Scenes::leaveEmpty, SingleTrackLine::punctualShare);
        Refusal.of("six trains", Boundaries.DIVISION, Scenes::makeSixTrains, SingleTrackLine::punctualShare);
        SingleTrackLine x = twoThatArrive();
        x.advance(3);
        Due.fails("a minute before", Boundaries.DIVISION, x::punctualShare);
        x.advance(1);
        Due.isReal("one has finished", x.punctualShare(), 1.0f);
        x.undo();
        Due.fails("none again", Boundaries.DIVISION, x::punctualShare);
    }

    @Sentence(under = "Promise 38", value = {"Checks the invariants: no station has fewer than 0 free tracks, no section "
            + "contains two trains, both ways of finding distances agree for all pairs of stations, and for each expected "
            + "train whose departure time is greater than the time, the arrival alone is the planned arrival.",
        "Returns true if all invariants hold."})
    static void atTheEdgesOfTheInvariants() {
        Due.is("no stations", new SingleTrackLine().isConsistent(), true);
        Due.is("one station", Scenes.on(Scenes::makeOneStation).isConsistent(), true);
        Due.is("seven stations", Scenes.on(Scenes::makeFull).isConsistent(), true);
        SingleTrackLine busy = Scenes.busy();
        Due.is("0 tracks are free", busy.freeTracks(1), 0);
        Due.is("that is not fewer", busy.isConsistent(), true);
        SingleTrackLine x = Scenes.line(1, 1, 1, 7);
        x.hold(x.addTrain(0, 1, 1));
        x.addTrain(0, 1, 5);
        x.hold(2);
        x.advance(4);
        Due.is("held, departs in a minute", x.isConsistent(), true);
        x.advance(1);
        Due.is("expected, but the departure time is the time", x.isConsistent(), true);
        x.advance(30);
        Due.is("expected, long after its departure", x.isConsistent(), true);
        SingleTrackLine far = Scenes.line(1, 1, 1, 30, 1, 30, 1, 30, 1, 30, 1, 30, 1, 30);
        for (int i = 0; i < 6; i++) {
            far.addTrain(i % 2 * 6, 6 - i % 2 * 6, 99);
        }
        Due.is("six trains on the longest way", far.isConsistent(), true);
    }
}
