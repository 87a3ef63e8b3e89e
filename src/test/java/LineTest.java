/** Promises 1 to 3 and 9 to 17: the line and the queries about it. */
public final class LineTest {
    public static void main(String[] args) {
        newObject();
        addStation();
        addStationRefused();
        setTracks();
        setTracksRefused();
        stationQueries();
        freeTracks();
        sectionQueries();
        distances();
        Due.end();
    }

    private static void newObject() {
        SingleTrackLine x = new SingleTrackLine();
        Due.is("1: stationCount", x.stationCount(), 0);
        Due.is("1: trainCount", x.trainCount(), 0);
        Due.is("1: time", x.time(), 0);
        Due.is("1: finishedTrains", x.finishedTrains(), 0);
        Due.is("1: totalDelay", x.totalDelay(), 0);
        Due.is("1: drawing", Scenes.drawing(x), "");
        Due.fails("1: undo", IllegalStateException.class, x::undo);
        Due.fails("1: restore", IllegalStateException.class, x::restore);
        Due.is("1: an object of its own", new SingleTrackLine().addStation(1, 1), 0);
        Due.is("1: stationCount after another object got one", x.stationCount(), 0);
        Due.is("1: the first train of any line has the number 1", Scenes.line(1, 1, 1, 1).addTrain(0, 1, 1), 1);
    }

    private static void addStation() {
        SingleTrackLine x = new SingleTrackLine();
        Due.is("2: first", x.addStation(4, 30), 0);
        Due.is("2: no section yet", x.distance(0, 0), 0);
        Due.fails("2: no section yet", IndexOutOfBoundsException.class, () -> x.runningTime(0));
        Due.is("2: second", x.addStation(1, 1), 1);
        Due.is("2: the section has the second running time", x.runningTime(0), 1);
        Due.is("2: third", x.addStation(2, 30), 2);
        Due.is("2: runningTime(1)", x.runningTime(1), 30);
        Due.is("2: runningTime(0) stays", x.runningTime(0), 1);
        Due.is("2: tracks", x.tracks(0) * 100 + x.tracks(1) * 10 + x.tracks(2), 412);
        Due.is("2: stationCount", x.stationCount(), 3);
        for (int i = 3; i < 7; i++) {
            Due.is("2: station " + i, x.addStation(3, i), i);
        }
        Due.is("2: last section", x.runningTime(5), 6);
        Due.is("2: stationCount", x.stationCount(), 7);

        SingleTrackLine y = Scenes.line(1, 1, 1, 2);
        y.addTrain(1, 0, 1);
        y.advance(2);
        y.addStation(2, 5);
        Due.is("2: a train keeps its way when the line grows", Scenes.drawing(y), "[]<1[]-[]");
        Due.is("2: and its plan", y.plannedArrival(1), 4);
    }

    private static void addStationRefused() {
        Class<IllegalArgumentException> argument = IllegalArgumentException.class;
        Scenes.refused("2: addStation(0, 1)", Scenes::busy, argument, x -> x.addStation(0, 1));
        Scenes.refused("2: addStation(5, 1)", Scenes::busy, argument, x -> x.addStation(5, 1));
        Scenes.refused("2: addStation(-1, 1)", Scenes::busy, argument, x -> x.addStation(-1, 1));
        Scenes.refused("2: addStation(1, 0)", Scenes::busy, argument, x -> x.addStation(1, 0));
        Scenes.refused("2: addStation(1, 31)", Scenes::busy, argument, x -> x.addStation(1, 31));
        Scenes.refused("2: the first one's running time 0", SingleTrackLine::new, argument, x -> x.addStation(1, 0));
        Scenes.refused("2: the first one's running time 31", SingleTrackLine::new, argument, x -> x.addStation(1, 31));
        int[] far = {Integer.MIN_VALUE, Integer.MAX_VALUE};
        for (int value : far) {
            Scenes.refused("2: addStation(1, " + value + ")", Scenes::busy, argument, x -> x.addStation(1, value));
            Scenes.refused("2: addStation(" + value + ", 1)", Scenes::busy, argument, x -> x.addStation(value, 1));
        }
        Scenes.refused("2: an eighth station", LineTest::full, IllegalStateException.class, x -> x.addStation(1, 1));
        Scenes.refused("2: an eighth station with 0 tracks", LineTest::full, argument, x -> x.addStation(0, 1));
        Scenes.refused("2: an eighth station 31 minutes off", LineTest::full, argument, x -> x.addStation(1, 31));
    }

    private static SingleTrackLine full() {
        return Scenes.on(Scenes::makeFull);
    }

    private static void setTracks() {
        SingleTrackLine x = Scenes.line(1, 1, 2, 1);
        Due.is("3: setTracks(0, 4)", x.setTracks(0, 4), 1);
        Due.is("3: setTracks(0, 3)", x.setTracks(0, 3), 4);
        Due.is("3: the same number again", x.setTracks(0, 3), 3);
        Due.is("3: setTracks(0, 1)", x.setTracks(0, 1), 3);
        Due.is("3: setTracks(1, 1)", x.setTracks(1, 1), 2);
        Due.is("3: tracks", x.tracks(0) * 10 + x.tracks(1), 11);

        SingleTrackLine y = Scenes.line(4, 1, 1, 9);
        y.addTrain(0, 1, 1);
        y.addTrain(0, 1, 1);
        y.advance(1);
        Due.is("3: as many as are occupied", y.setTracks(0, 2), 4);
        Due.is("3: none is free then", y.freeTracks(0), 0);
        y.advance(1);
        Due.is("3: one has left", y.setTracks(0, 1), 2);

        SingleTrackLine z = towardsTheMiddle();
        z.setTracks(1, 4);
        Due.is("3: as many as are reserved", z.setTracks(1, 2), 4);
        SingleTrackLine w = Scenes.line(1, 1, 2, 9, 1, 9);
        w.addTrain(0, 1, 1);
        w.addTrain(2, 1, 1);
        w.advance(2);
        Due.is("3: the destination reserves nothing", w.setTracks(1, 1), 2);
    }

    /** Two trains run to station 1 from both sides and go on from there. */
    private static SingleTrackLine towardsTheMiddle() {
        SingleTrackLine x = Scenes.line(1, 1, 2, 9, 1, 9);
        x.addTrain(0, 2, 1);
        x.addTrain(2, 0, 1);
        x.advance(2);
        return x;
    }

    private static void setTracksRefused() {
        Class<IndexOutOfBoundsException> index = IndexOutOfBoundsException.class;
        Class<IllegalArgumentException> argument = IllegalArgumentException.class;
        Class<IllegalStateException> state = IllegalStateException.class;
        Scenes.refused("3: setTracks(3, 1)", Scenes::busy, index, x -> x.setTracks(3, 1));
        Scenes.refused("3: setTracks(-1, 1)", Scenes::busy, index, x -> x.setTracks(-1, 1));
        Scenes.refused("3: no station and no tracks", Scenes::busy, index, x -> x.setTracks(3, 0));
        Scenes.refused("3: station MAX", Scenes::busy, index, x -> x.setTracks(Integer.MAX_VALUE, 9));
        Scenes.refused("3: station MIN", Scenes::busy, index, x -> x.setTracks(Integer.MIN_VALUE, 9));
        Scenes.refused("3: without stations", SingleTrackLine::new, index, x -> x.setTracks(0, 1));
        Scenes.refused("3: setTracks(2, 0)", Scenes::busy, argument, x -> x.setTracks(2, 0));
        Scenes.refused("3: setTracks(2, 5)", Scenes::busy, argument, x -> x.setTracks(2, 5));
        Scenes.refused("3: setTracks(2, -1)", Scenes::busy, argument, x -> x.setTracks(2, -1));
        Scenes.refused("3: 0 tracks where trains are", LineTest::towardsTheMiddle, argument, x -> x.setTracks(1, 0));
        Scenes.refused("3: two reserved", LineTest::towardsTheMiddle, state, x -> x.setTracks(1, 1));
        Scenes.refused("3: two occupied", LineTest::twoAtTheStart, state, x -> x.setTracks(0, 1));
        Scenes.refused("3: one of each", LineTest::oneThereAndOneComing, state, x -> x.setTracks(1, 1));
    }

    private static SingleTrackLine twoAtTheStart() {
        SingleTrackLine x = Scenes.line(2, 1, 1, 9);
        x.addTrain(0, 1, 1);
        x.addTrain(0, 1, 1);
        x.advance(1);
        return x;
    }

    private static SingleTrackLine oneThereAndOneComing() {
        SingleTrackLine x = Scenes.line(2, 1, 3, 9, 1, 9);
        x.addTrain(0, 2, 1);
        x.addTrain(1, 2, 1);
        x.hold(2);
        x.advance(2);
        return x;
    }

    private static void stationQueries() {
        SingleTrackLine x = Scenes.busy();
        Due.is("9: stationCount", x.stationCount(), 3);
        Due.is("10: tracks", x.tracks(0) * 100 + x.tracks(1) * 10 + x.tracks(2), 213);
        Due.is("12: trainsAt(0), a held one", x.trainsAt(0), 1);
        Due.is("12: trainsAt(1), one is coming", x.trainsAt(1), 0);
        Due.is("12: trainsAt(2)", x.trainsAt(2), 1);
        Due.is("12: two at a station", twoAtTheStart().trainsAt(0), 2);
        Due.is("12: an expected one is not there", x.trainsAt(1), 0);
        int[] wrong = {-1, 3, Integer.MIN_VALUE, Integer.MAX_VALUE};
        for (int station : wrong) {
            Due.fails("10: tracks(" + station + ")", IndexOutOfBoundsException.class, () -> x.tracks(station));
            Due.fails("11: freeTracks(" + station + ")", IndexOutOfBoundsException.class, () -> x.freeTracks(station));
            Due.fails("12: trainsAt(" + station + ")", IndexOutOfBoundsException.class, () -> x.trainsAt(station));
        }
        Due.is("9: after seven", full().stationCount(), 7);
        Due.is("10: the last of seven", full().tracks(6), 3);
        Due.fails("10: tracks(7)", IndexOutOfBoundsException.class, () -> full().tracks(7));
    }

    private static void freeTracks() {
        SingleTrackLine x = Scenes.busy();
        Due.is("11: one of two occupied", x.freeTracks(0), 1);
        Due.is("11: the only one reserved", x.freeTracks(1), 0);
        Due.is("11: one of three occupied", x.freeTracks(2), 2);
        SingleTrackLine y = Scenes.line(2, 1, 1, 9);
        y.addTrain(0, 1, 1);
        Due.is("11: an expected train takes none", y.freeTracks(0), 2);
        y.advance(1);
        Due.is("11: a train at its start takes one", y.freeTracks(0), 1);
        y.advance(1);
        Due.is("11: a train that left takes none", y.freeTracks(0), 2);
        Due.is("11: it reserves none at its destination", y.freeTracks(1), 1);
        Due.is("11: two reserved", towardsTheMiddle().freeTracks(1), 0);
        Due.is("11: one there and one coming", oneThereAndOneComing().freeTracks(1), 1);
    }

    private static void sectionQueries() {
        SingleTrackLine x = Scenes.busy();
        Due.is("13: runningTime(0)", x.runningTime(0), 9);
        Due.is("13: runningTime(1)", x.runningTime(1), 4);
        Due.is("14: isTokenFree(0)", x.isTokenFree(0), false);
        Due.is("14: isTokenFree(1)", x.isTokenFree(1), true);
        Due.is("15: tokenHolder(0)", x.tokenHolder(0), 1);
        Due.fails("15: tokenHolder(1)", java.util.NoSuchElementException.class, () -> x.tokenHolder(1));
        int[] wrong = {-1, 2, Integer.MIN_VALUE, Integer.MAX_VALUE};
        for (int section : wrong) {
            Due.fails("13: runningTime(" + section + ")", IndexOutOfBoundsException.class, () -> x.runningTime(section));
            Due.fails("14: isTokenFree(" + section + ")", IndexOutOfBoundsException.class, () -> x.isTokenFree(section));
            Due.fails("15: tokenHolder(" + section + ")", IndexOutOfBoundsException.class, () -> x.tokenHolder(section));
        }
        SingleTrackLine none = new SingleTrackLine();
        Due.fails("13: without stations", IndexOutOfBoundsException.class, () -> none.runningTime(-1));
        SingleTrackLine one = Scenes.line(1, 1);
        Due.fails("13: with one station", IndexOutOfBoundsException.class, () -> one.runningTime(0));
        Due.fails("14: with one station", IndexOutOfBoundsException.class, () -> one.isTokenFree(0));
        Due.fails("15: with one station", IndexOutOfBoundsException.class, () -> one.tokenHolder(0));
        SingleTrackLine both = towardsTheMiddle();
        Due.is("15: upwards", both.tokenHolder(0), 1);
        Due.is("15: downwards", both.tokenHolder(1), 2);
    }

    private static void distances() {
        SingleTrackLine x = full();
        int[] positions = {0, 2, 5, 9, 14, 20, 27};
        for (int one = 0; one < 7; one++) {
            for (int other = 0; other < 7; other++) {
                int due = Math.abs(positions[one] - positions[other]);
                Due.is("16: distance(" + one + ", " + other + ")", x.distance(one, other), due);
                Due.is("17: distanceByPositions(" + one + ", " + other + ")", x.distanceByPositions(one, other), due);
            }
        }
        int[] wrong = {-1, 7, Integer.MIN_VALUE, Integer.MAX_VALUE};
        Class<IndexOutOfBoundsException> index = IndexOutOfBoundsException.class;
        for (int station : wrong) {
            Due.fails("16: distance(" + station + ", 0)", index, () -> x.distance(station, 0));
            Due.fails("16: distance(0, " + station + ")", index, () -> x.distance(0, station));
            Due.fails("16: distance of one that is not to itself", index, () -> x.distance(station, station));
            Due.fails("17: distanceByPositions(" + station + ", 0)", index, () -> x.distanceByPositions(station, 0));
            Due.fails("17: distanceByPositions(0, " + station + ")", index, () -> x.distanceByPositions(0, station));
            Due.fails("17: of one that is not to itself", index, () -> x.distanceByPositions(station, station));
        }
    }
}
