import java.util.NoSuchElementException;

/** Promises 4 to 7 and 18 to 26: trains, holding and cancelling, and the queries about trains. */
public final class TrainsTest {
    private static final Class<IndexOutOfBoundsException> INDEX = IndexOutOfBoundsException.class;
    private static final Class<IllegalArgumentException> ARGUMENT = IllegalArgumentException.class;
    private static final Class<IllegalStateException> STATE = IllegalStateException.class;
    private static final Class<NoSuchElementException> NO_TRAIN = NoSuchElementException.class;
    private static final int[] NO_NUMBERS = {0, -1, 5, 6, 7, Integer.MIN_VALUE, Integer.MAX_VALUE};

    public static void main(String[] args) {
        addTrain();
        addTrainRefused();
        numbersAreNotUsedTwice();
        nothingIsLeftOfEarlierTrains();
        hold();
        release();
        holdAndReleaseRefused();
        cancel();
        cancelRefused();
        whichTrainsThereAre();
        whereTrainsAre();
        waitedMinutes();
        plannedArrival();
        queriesWithoutTrain();
        Due.end();
    }

    private static void addTrain() {
        SingleTrackLine x = Scenes.line(1, 1, 1, 2, 1, 3);
        x.advance(7);
        Due.is("4: first", x.addTrain(0, 2, 1), 1);
        Due.is("4: second", x.addTrain(2, 0, 99), 2);
        Due.is("4: initially expected", x.isExpected(1), true);
        Due.is("4: initially not held", x.isHeld(1), false);
        Due.is("4: initially nothing waited", x.waitedMinutes(1), 0);
        Due.is("4: departure 1 minute from now", Scenes.sign(x, 1), "1:0>2@8");
        Due.is("4: departure 99 minutes from now", Scenes.sign(x, 2), "2:2>0@106");
        for (int number = 3; number <= 6; number++) {
            Due.is("4: train " + number, x.addTrain(0, 1, 1), number);
        }
        Due.is("4: trainCount", x.trainCount(), 6);
    }

    private static SingleTrackLine sixTrains() {
        return Scenes.on(Scenes::makeSixTrains);
    }

    private static void addTrainRefused() {
        int[] wrongStations = {-1, 3, Integer.MIN_VALUE, Integer.MAX_VALUE};
        for (int station : wrongStations) {
            Scenes.refused("4: start " + station, Scenes::busy, INDEX, x -> x.addTrain(station, 0, 1));
            Scenes.refused("4: destination " + station, Scenes::busy, INDEX, x -> x.addTrain(0, station, 1));
            Scenes.refused("4: both " + station, Scenes::busy, INDEX, x -> x.addTrain(station, station, 0));
        }
        int[] wrongMinutes = {0, 100, -1, Integer.MIN_VALUE, Integer.MAX_VALUE};
        for (int minutes : wrongMinutes) {
            Scenes.refused("4: minutes " + minutes, Scenes::busy, ARGUMENT, x -> x.addTrain(0, 1, minutes));
            Scenes.refused("4: no station, minutes " + minutes, Scenes::busy, INDEX, x -> x.addTrain(0, 3, minutes));
            Scenes.refused("4: six trains, minutes " + minutes, TrainsTest::sixTrains, ARGUMENT,
                    x -> x.addTrain(0, 1, minutes));
        }
        Scenes.refused("4: to where it is", Scenes::busy, ARGUMENT, x -> x.addTrain(1, 1, 1));
        Scenes.refused("4: six trains, to where it is", TrainsTest::sixTrains, ARGUMENT, x -> x.addTrain(1, 1, 1));
        Scenes.refused("4: six trains, no station", TrainsTest::sixTrains, INDEX, x -> x.addTrain(3, 1, 1));
        Scenes.refused("4: a seventh train", TrainsTest::sixTrains, STATE, x -> x.addTrain(0, 1, 1));
        Scenes.refused("4: without stations", SingleTrackLine::new, INDEX, x -> x.addTrain(0, 0, 0));
    }

    private static void numbersAreNotUsedTwice() {
        SingleTrackLine x = sixTrains();
        x.cancelTrain(6);
        x.cancelTrain(2);
        Due.is("4: after cancelling the last number", x.addTrain(0, 1, 1), 7);
        Due.is("4: and once more", x.addTrain(0, 1, 1), 8);
        Due.fails("4: six again", STATE, () -> x.addTrain(0, 1, 1));
        SingleTrackLine y = Scenes.line(1, 1, 1, 1);
        y.addTrain(0, 1, 1);
        y.advance(3);
        Due.is("4: after the only one finished", y.addTrain(0, 1, 1), 2);
    }

    private static void nothingIsLeftOfEarlierTrains() {
        SingleTrackLine x = Scenes.line(4, 1, 1, 9, 4, 9);
        x.addTrain(1, 0, 1);
        x.hold(1);
        for (int number = 2; number <= 6; number++) {
            x.addTrain(number % 2 * 2, 2 - number % 2 * 2, 1);
        }
        x.advance(9);
        Due.is("25: they have waited", x.waitedMinutes(2), 8);
        for (int number = 1; number <= 6; number++) {
            if (number > 1) {
                x.hold(number);
            }
            x.cancelTrain(number);
        }
        for (int number = 7; number <= 12; number++) {
            Due.is("4: train " + number, x.addTrain(0, 2, 5), number);
            Due.is("4: initially not held", x.isHeld(number), false);
            Due.is("4: initially nothing waited", x.waitedMinutes(number), 0);
            Due.is("4: initially expected", x.isExpected(number), true);
        }
        Due.is("4: one of them is held", x.hold(9), 1);
    }

    private static void hold() {
        SingleTrackLine x = Scenes.busy();
        Due.is("5: an expected one", x.hold(4), 2);
        Due.is("5: one in a section", x.hold(1), 3);
        Due.is("5: one at a station", x.hold(2), 4);
        Due.is("5: isHeld", x.isHeld(1) && x.isHeld(2) && x.isHeld(3) && x.isHeld(4), true);
        x.advance(60);
        Due.is("5: they go on until they are at a station", Scenes.drawing(x), "[3]-[1]-[2]");
        Due.is("5: the expected one found no free track", x.isExpected(4), true);
        x.cancelTrain(1);
        x.advance(1);
        Due.is("5: but comes when there is one", Scenes.drawing(x), "[3]-[4]-[2]");
        Due.is("5: a held train does not wait", x.waitedMinutes(3), 0);
        Due.is("5: what it waited before stays", x.waitedMinutes(2), 3);

        SingleTrackLine y = Scenes.line(1, 1, 1, 4);
        y.addTrain(0, 1, 1);
        y.advance(3);
        y.hold(1);
        Due.is("5: a held train finishes from its last section", y.advance(3), 1);
        SingleTrackLine z = Scenes.line(1, 1, 1, 4);
        z.addTrain(0, 1, 1);
        z.addTrain(0, 1, 1);
        z.hold(2);
        z.hold(1);
        z.cancelTrain(2);
        z.addTrain(0, 1, 1);
        Due.is("5: a removed train is not counted", z.hold(3), 2);
    }

    private static void release() {
        SingleTrackLine x = Scenes.busy();
        x.hold(4);
        Due.is("6: one of two", x.releaseTrain(3), 1);
        Due.is("6: isHeld", x.isHeld(3), false);
        Due.is("6: the other one still is", x.isHeld(4), true);
        Due.is("6: the other one", x.releaseTrain(4), 0);
        x.hold(3);
        x.releaseTrain(3);
        x.advance(1);
        Due.is("6: then it waits again", x.waitedMinutes(3), 1);
    }

    private static void holdAndReleaseRefused() {
        for (int number : NO_NUMBERS) {
            Scenes.refused("5: hold(" + number + ")", Scenes::busy, NO_TRAIN, x -> x.hold(number));
            Scenes.refused("6: releaseTrain(" + number + ")", Scenes::busy, NO_TRAIN, x -> x.releaseTrain(number));
        }
        Scenes.refused("5: held", Scenes::busy, STATE, x -> x.hold(3));
        for (int number = 1; number <= 4; number++) {
            int train = number;
            if (train != 3) {
                Scenes.refused("6: not held, " + train, Scenes::busy, STATE, x -> x.releaseTrain(train));
            }
        }
    }

    private static void cancel() {
        SingleTrackLine x = Scenes.busy();
        Due.is("7: an expected one", x.cancelTrain(4), 3);
        Due.is("7: one at a station", x.cancelTrain(2), 2);
        Due.is("7: a held one", x.cancelTrain(3), 1);
        Due.is("7: its track is free", x.freeTracks(0), 2);
        Due.is("7: it does not count as finished", x.finishedTrains(), 1);
        Due.is("7: trainCount", x.trainCount(), 1);
        Due.is("7: exists", x.exists(2) || x.exists(3) || x.exists(4), false);
        Due.is("7: the one that stays", x.exists(1), true);
        Due.is("7: drawing", Scenes.drawing(x), "[]>1[]-[]");
        SingleTrackLine y = sixTrains();
        y.cancelTrain(1);
        y.cancelTrain(3);
        Due.is("7: those that stay", y.exists(2) && y.exists(4) && y.exists(5) && y.exists(6), true);
        Due.is("7: and where they start", Scenes.sign(y, 4), "4:0>1@4");
    }

    private static void cancelRefused() {
        for (int number : NO_NUMBERS) {
            Scenes.refused("7: cancelTrain(" + number + ")", Scenes::busy, NO_TRAIN, x -> x.cancelTrain(number));
        }
        Scenes.refused("7: in a section", Scenes::busy, STATE, x -> x.cancelTrain(1));
    }

    private static void whichTrainsThereAre() {
        SingleTrackLine x = Scenes.busy();
        Due.is("18: one has finished", x.trainCount(), 4);
        Due.is("18: none", Scenes.line(1, 1).trainCount(), 0);
        Due.is("18: six", sixTrains().trainCount(), 6);
        for (int number = 1; number <= 4; number++) {
            Due.is("19: exists(" + number + ")", x.exists(number), true);
        }
        for (int number : NO_NUMBERS) {
            Due.is("19: exists(" + number + ")", x.exists(number), false);
        }
        Due.is("19: 0 on a new line", new SingleTrackLine().exists(0), false);
    }

    private static void whereTrainsAre() {
        SingleTrackLine x = Scenes.busy();
        Due.is("20: in a section", x.isExpected(1), false);
        Due.is("20: at a station", x.isExpected(2), false);
        Due.is("20: expected", x.isExpected(4), true);
        Due.is("21: held", x.isHeld(3), true);
        Due.is("21: not held", x.isHeld(1), false);
        Due.is("22: stationOf(2)", x.stationOf(2), 2);
        Due.is("22: stationOf(3)", x.stationOf(3), 0);
        Due.fails("22: in a section", STATE, () -> x.stationOf(1));
        Due.fails("22: expected", STATE, () -> x.stationOf(4));
        Due.is("23: sectionOf(1)", x.sectionOf(1), 0);
        Due.fails("23: at a station", STATE, () -> x.sectionOf(2));
        Due.fails("23: expected", STATE, () -> x.sectionOf(4));
        Due.is("24: remainingTime(1)", x.remainingTime(1), 8);
        Due.fails("24: at a station", STATE, () -> x.remainingTime(2));
        Due.fails("24: expected", STATE, () -> x.remainingTime(4));
        x.advance(7);
        Due.is("24: the last minute", x.remainingTime(1), 1);
        x.advance(1);
        Due.fails("24: arrived", STATE, () -> x.remainingTime(1));
        Due.fails("23: arrived", STATE, () -> x.sectionOf(1));
        Due.is("22: arrived", x.stationOf(1), 1);
        SingleTrackLine y = Scenes.line(1, 1, 1, 2, 1, 30);
        y.addTrain(2, 0, 1);
        y.advance(2);
        Due.is("23: downwards", y.sectionOf(1), 1);
        Due.is("24: just left", y.remainingTime(1), 30);
        y.advance(30);
        Due.is("22: between", y.stationOf(1), 1);
        y.advance(1);
        Due.is("23: further down", y.sectionOf(1), 0);
        Due.is("24: with the running time of that section", y.remainingTime(1), 2);
    }

    private static void waitedMinutes() {
        SingleTrackLine x = Scenes.busy();
        Due.is("25: waited for a token, then for a track", x.waitedMinutes(2), 3);
        Due.is("25: in a section", x.waitedMinutes(1), 0);
        Due.is("25: held", x.waitedMinutes(3), 0);
        Due.is("25: expected", x.waitedMinutes(4), 0);
        x.advance(1);
        Due.is("25: one more", x.waitedMinutes(2), 4);
    }

    private static void plannedArrival() {
        SingleTrackLine x = Scenes.busy();
        Due.is("26: 0 to 2", x.plannedArrival(1), 4 + 9 + 4 + 2);
        Due.is("26: 2 to 0", x.plannedArrival(2), 3 + 9 + 4 + 2);
        Due.is("26: 1 to 0", x.plannedArrival(4), 50 + 9 + 1);
        x.setTracks(2, 4);
        x.hold(1);
        x.advance(30);
        Due.is("26: does not change", x.plannedArrival(2), 18);
        SingleTrackLine y = Scenes.line(1, 1, 1, 30, 1, 30, 1, 30, 1, 30, 1, 30, 1, 30);
        y.advance(60);
        y.addTrain(6, 0, 99);
        Due.is("26: the latest", y.plannedArrival(1), 60 + 99 + 180 + 6);
        y.addTrain(5, 6, 1);
        Due.is("26: one section", y.plannedArrival(2), 61 + 30 + 1);
    }

    private static void queriesWithoutTrain() {
        SingleTrackLine x = Scenes.busy();
        for (int number : NO_NUMBERS) {
            Due.fails("20: isExpected(" + number + ")", NO_TRAIN, () -> x.isExpected(number));
            Due.fails("21: isHeld(" + number + ")", NO_TRAIN, () -> x.isHeld(number));
            Due.fails("22: stationOf(" + number + ")", NO_TRAIN, () -> x.stationOf(number));
            Due.fails("23: sectionOf(" + number + ")", NO_TRAIN, () -> x.sectionOf(number));
            Due.fails("24: remainingTime(" + number + ")", NO_TRAIN, () -> x.remainingTime(number));
            Due.fails("25: waitedMinutes(" + number + ")", NO_TRAIN, () -> x.waitedMinutes(number));
            Due.fails("26: plannedArrival(" + number + ")", NO_TRAIN, () -> x.plannedArrival(number));
        }
    }
}
