/** The boundary cases of the promises 1 to 3 and 9 to 17: the line and the queries about it. */
public final class LineBoundariesTest {
    public static void main(String[] args) throws ReflectiveOperationException {
        Boundaries.ask(LineBoundariesTest.class);
    }

    // ---- a new object

    @Sentence(under = "Promise 1", value = "Creates a line without stations and trains at time 0.")
    static void nothingIsThere() {
        SingleTrackLine x = new SingleTrackLine();
        Due.is("stationCount", x.stationCount(), 0);
        Due.is("trainCount", x.trainCount(), 0);
        Due.is("time", x.time(), 0);
        Due.is("finishedTrains", x.finishedTrains(), 0);
        Due.is("stuckTrains", x.stuckTrains(), 0);
        Due.is("totalDelay", x.totalDelay(), 0);
        Due.is("isConsistent", x.isConsistent(), true);
        Due.is("exists(0)", x.exists(0), false);
        Due.is("writeLine", x.writeLine(), 0);
        Due.fails("a station", Boundaries.INDEX, () -> x.tracks(0));
        Due.fails("a section", Boundaries.INDEX, () -> x.isTokenFree(0));
        Due.fails("a train", Boundaries.NO_ELEMENT, () -> x.isHeld(1));
        Due.fails("a rank", Boundaries.NO_ELEMENT, () -> x.trainAtRank(0));
        Due.fails("a program", Boundaries.ARGUMENT, x::run);
        Due.is("minutes pass there, too", x.advance(1), 0);
    }

    // ---- addStation

    @Sentence(under = "Promise 2", value = {"Adds a station at the end of the line.", "Returns the index of the new station."})
    static void indicesFrom0To6() {
        SingleTrackLine x = new SingleTrackLine();
        for (int station = 0; station <= 6; station++) {
            Due.is("its index", x.addStation(1 + station % 4, 1), station);
            Due.is("its tracks", x.tracks(station), 1 + station % 4);
            Due.is("the tracks of the first one", x.tracks(0), 1);
        }
    }

    @Sentence(under = "Promise 2", value =
            "If it is not the first station, a section from the last station to it is added, too.")
    static void noSectionForTheFirst() {
        SingleTrackLine x = new SingleTrackLine();
        x.addStation(1, 30);
        Due.fails("after the first", Boundaries.INDEX, () -> x.isTokenFree(0));
        x.addStation(1, 2);
        Due.is("after the second", x.isTokenFree(0), true);
        Due.is("its running time", x.runningTime(0), 2);
        Due.fails("no further one", Boundaries.INDEX, () -> x.isTokenFree(1));
        x.addStation(1, 3);
        Due.is("after the third", x.runningTime(1), 3);
        Due.is("the first one stays", x.runningTime(0), 2);
    }

    @Sentence(under = "Promise 2", value = "- `tracks`: the number of tracks, 1 to 4")
    static void tracks1To4() {
        SingleTrackLine x = new SingleTrackLine();
        for (int tracks = 1; tracks <= 4; tracks++) {
            Due.is("the station", x.addStation(tracks, 1), tracks - 1);
            Due.is("its tracks", x.tracks(tracks - 1), tracks);
        }
        Due.fails("0 tracks", Boundaries.ARGUMENT, () -> x.addStation(0, 1));
        Due.fails("5 tracks", Boundaries.ARGUMENT, () -> x.addStation(5, 1));
    }

    @Sentence(under = "Promise 2", value = "- `runningTime`: the running time of the new section, 1 to 30; for the first "
            + "station it has no effect, but must be in range, too")
    static void runningTimeOfTheFirst() {
        SingleTrackLine x = new SingleTrackLine();
        for (int minutes : Boundaries.outside(1, 30)) {
            Refusal.of("the first one, " + minutes, Boundaries.ARGUMENT, Scenes::leaveEmpty, y -> y.addStation(1, minutes));
            Refusal.of("the second one, " + minutes, Boundaries.ARGUMENT, Scenes::makeOneStation,
                    y -> y.addStation(1, minutes));
        }
        Due.is("30 for the first", x.addStation(1, 30), 0);
        Due.is("it has no effect", x.distance(0, 0) + x.distanceByPositions(0, 0), 0);
        Due.is("30 for the second", x.addStation(1, 30), 1);
        Due.is("it has an effect", x.distance(0, 1), 30);
        Due.is("by positions", x.distanceByPositions(1, 0), 30);
        SingleTrackLine y = new SingleTrackLine();
        Due.is("1 for the first", y.addStation(1, 1), 0);
        Due.is("1 for the second", y.addStation(1, 1), 1);
        Due.is("one minute", y.distance(0, 1), 1);
        Due.is("one minute by positions", y.distanceByPositions(0, 1), 1);
    }

    @Sentence(under = "Promise 2", value =
            "Throws `IllegalArgumentException` if the number of tracks or the running time is out of range")
    static void addStationOutOfRange() {
        for (int tracks : Boundaries.outside(1, 4)) {
            Refusal.of("tracks " + tracks, Boundaries.ARGUMENT, Scenes::makeBusy, x -> x.addStation(tracks, 30));
            Refusal.of("the first one's tracks " + tracks, Boundaries.ARGUMENT, Scenes::leaveEmpty,
                    x -> x.addStation(tracks, 30));
            Refusal.of("both", Boundaries.ARGUMENT, Scenes::makeBusy, x -> x.addStation(tracks, 31));
        }
        for (int minutes : Boundaries.outside(1, 30)) {
            Refusal.of("running time " + minutes, Boundaries.ARGUMENT, Scenes::makeBusy, x -> x.addStation(4, minutes));
        }
        Due.is("the least of both", Scenes.busy().addStation(1, 1), 3);
        Due.is("the greatest of both", Scenes.busy().addStation(4, 30), 3);
    }

    @Sentence(under = "Promise 2", value = "Throws `IllegalStateException` if there are 7 stations")
    static void anEighthStation() {
        SingleTrackLine x = Scenes.line(1, 1, 1, 1, 1, 1, 1, 1, 1, 1, 1, 1);
        Due.is("with six stations", x.addStation(1, 1), 6);
        Due.fails("with seven", Boundaries.STATE, () -> x.addStation(1, 1));
        Due.is("with seven there are seven still", x.stationCount(), 7);
        Refusal.of("the least", Boundaries.STATE, Scenes::makeFull, y -> y.addStation(1, 1));
        Refusal.of("the greatest", Boundaries.STATE, Scenes::makeFull, y -> y.addStation(4, 30));
        x.undo();
        Due.is("with six again", x.addStation(4, 30), 6);
    }

    // ---- setTracks

    @Sentence(under = "Promise 3", value = "- `tracks`: the new number of tracks, 1 to 4")
    static void setTracks1To4() {
        SingleTrackLine x = Scenes.line(2, 1);
        Due.is("1", x.setTracks(0, 1), 2);
        Due.is("4", x.setTracks(0, 4), 1);
        Due.is("4 again", x.setTracks(0, 4), 4);
        Due.fails("0", Boundaries.ARGUMENT, () -> x.setTracks(0, 0));
        Due.fails("5", Boundaries.ARGUMENT, () -> x.setTracks(0, 5));
        Due.is("4 still", x.tracks(0), 4);
    }

    @Sentence(under = "Promise 3", value = "Throws `IndexOutOfBoundsException` if there is no such station")
    static void setTracksOfNoStation() {
        Due.is("the first of three", Scenes.busy().setTracks(0, 2), 2);
        Due.is("the last of three", Scenes.busy().setTracks(2, 4), 3);
        Due.is("the last of seven", Scenes.on(Scenes::makeFull).setTracks(6, 4), 3);
        Refusal.ofNoStation((x, station) -> x.setTracks(station, 1));
    }

    @Sentence(under = "Promise 3", value = "Throws `IllegalArgumentException` if the number of tracks is out of range")
    static void setTracksOutOfRange() {
        Due.is("the least", Scenes.busy().setTracks(2, 1), 3);
        Due.is("the greatest", Scenes.busy().setTracks(2, 4), 3);
        for (int tracks : Boundaries.outside(1, 4)) {
            Refusal.of("tracks " + tracks, Boundaries.ARGUMENT, Scenes::makeBusy, x -> x.setTracks(2, tracks));
        }
    }

    @Sentence(under = "Promise 3", value = "Throws `IllegalStateException` if more tracks are occupied or reserved")
    static void setTracksInUse() {
        for (int used = 1; used <= 4; used++) {
            int trains = used;
            Scenes.Call scene = x -> makeOccupied(x, trains);
            SingleTrackLine x = Scenes.on(scene);
            Due.is("as many as are occupied: " + used, x.setTracks(0, used), 4);
            Due.is("none is free then", x.freeTracks(0), 0);
            if (used > 1) {
                Refusal.of("one less than are occupied: " + used, Boundaries.STATE, scene, y -> y.setTracks(0, trains - 1));
            }
        }
        Due.is("as many as are reserved", Scenes.on(LineBoundariesTest::makeReserved).setTracks(1, 2), 4);
        Refusal.of("one less than are reserved", Boundaries.STATE, LineBoundariesTest::makeReserved, x -> x.setTracks(1, 1));
        Due.is("an occupied and two reserved", Scenes.on(LineBoundariesTest::makeBoth).setTracks(1, 3), 4);
        Refusal.of("one less than these", Boundaries.STATE, LineBoundariesTest::makeBoth, x -> x.setTracks(1, 2));
        Refusal.of("1 of these", Boundaries.STATE, LineBoundariesTest::makeBoth, x -> x.setTracks(1, 1));
    }

    private static void makeOccupied(SingleTrackLine x, int trains) {
        Scenes.addStations(x, 4, 1, 1, 9);
        for (int i = 0; i < trains; i++) {
            x.addTrain(0, 1, 1);
        }
        x.advance(1);
    }

    /** Two trains run to station 1 and go on from there. */
    private static void makeReserved(SingleTrackLine x) {
        Scenes.addStations(x, 1, 1, 4, 9, 1, 9);
        x.addTrain(0, 2, 1);
        x.addTrain(2, 0, 1);
        x.advance(2);
    }

    private static void makeBoth(SingleTrackLine x) {
        makeReserved(x);
        x.addTrain(1, 0, 1);
        x.advance(1);
    }

    // ---- queries

    @Sentence(under = "Promise 9", value = "Returns the number, 0 to 7.")
    static void from0To7Stations() {
        SingleTrackLine x = new SingleTrackLine();
        for (int count = 0; count < 7; count++) {
            Due.is("so many", x.stationCount(), count);
            x.addStation(1, 1);
        }
        Due.is("seven", x.stationCount(), 7);
        Due.fails("an eighth", Boundaries.STATE, () -> x.addStation(1, 1));
        Due.is("seven still", x.stationCount(), 7);
    }

    @Sentence(under = "Promise 10", value = "Throws `IndexOutOfBoundsException` if there is no such station")
    static void tracksOfNoStation() {
        Due.is("the first", Scenes.busy().tracks(0), 2);
        Due.is("the last", Scenes.busy().tracks(2), 3);
        Due.is("the last of seven", Scenes.on(Scenes::makeFull).tracks(6), 3);
        Refusal.ofNoStation(SingleTrackLine::tracks);
    }

    @Sentence(under = "Promise 11", value = "Throws `IndexOutOfBoundsException` if there is no such station")
    static void freeTracksOfNoStation() {
        Due.is("the first", Scenes.busy().freeTracks(0), 1);
        Due.is("none is free", Scenes.busy().freeTracks(1), 0);
        Due.is("the last", Scenes.busy().freeTracks(2), 2);
        Due.is("the last of seven", Scenes.on(Scenes::makeFull).freeTracks(6), 3);
        Refusal.ofNoStation(SingleTrackLine::freeTracks);
    }

    @Sentence(under = "Promise 12", value = "Throws `IndexOutOfBoundsException` if there is no such station")
    static void trainsAtNoStation() {
        Due.is("the first", Scenes.busy().trainsAt(0), 1);
        Due.is("none is there", Scenes.busy().trainsAt(1), 0);
        Due.is("the last", Scenes.busy().trainsAt(2), 1);
        Due.is("the last of seven", Scenes.on(Scenes::makeFull).trainsAt(6), 0);
        Due.is("four", Scenes.on(x -> makeOccupied(x, 4)).trainsAt(0), 4);
        Due.is("not more than four", Scenes.on(x -> makeOccupied(x, 6)).trainsAt(0), 4);
        Refusal.ofNoStation(SingleTrackLine::trainsAt);
    }

    @Sentence(under = "Promise 13", value = "Throws `IndexOutOfBoundsException` if there is no such section")
    static void runningTimeOfNoSection() {
        Due.is("the first", Scenes.busy().runningTime(0), 9);
        Due.is("the last", Scenes.busy().runningTime(1), 4);
        Due.is("the last of six", Scenes.on(Scenes::makeFull).runningTime(5), 7);
        Refusal.ofNoSection(SingleTrackLine::runningTime);
    }

    @Sentence(under = "Promise 14", value = {"Returns true if no train is in the section.",
        "Throws `IndexOutOfBoundsException` if there is no such section"})
    static void tokenOfNoSection() {
        Due.is("the first, a train is in it", Scenes.busy().isTokenFree(0), false);
        Due.is("the last, none is in it", Scenes.busy().isTokenFree(1), true);
        Due.is("the last of six", Scenes.on(Scenes::makeFull).isTokenFree(5), true);
        Refusal.ofNoSection(SingleTrackLine::isTokenFree);
        SingleTrackLine x = Scenes.line(1, 1, 1, 1);
        x.addTrain(0, 1, 1);
        boolean[] due = {true, true, false, true};
        for (int minute = 0; minute < due.length; minute++) {
            Due.is("in minute " + minute, x.isTokenFree(0), due[minute]);
            x.advance(1);
        }
    }

    @Sentence(under = "Promise 15", value = "Throws `IndexOutOfBoundsException` if there is no such section")
    static void holderOfNoSection() {
        Due.is("the first", Scenes.busy().tokenHolder(0), 1);
        SingleTrackLine x = Scenes.on(Scenes::makeFull);
        x.addTrain(6, 0, 1);
        x.advance(2);
        Due.is("the last of six", x.tokenHolder(5), 1);
        Refusal.ofNoSection(SingleTrackLine::tokenHolder);
    }

    @Sentence(under = "Promise 15", value = "Throws `NoSuchElementException` if the token is free")
    static void holderOfAFreeToken() {
        Refusal.of("the last section", Boundaries.NO_ELEMENT, Scenes::makeBusy, x -> x.tokenHolder(1));
        Refusal.of("the last of six", Boundaries.NO_ELEMENT, Scenes::makeFull, x -> x.tokenHolder(5));
        SingleTrackLine x = Scenes.line(1, 1, 1, 1);
        x.addTrain(0, 1, 1);
        x.advance(1);
        Due.fails("a minute before", Boundaries.NO_ELEMENT, () -> x.tokenHolder(0));
        x.advance(1);
        Due.is("the only minute", x.tokenHolder(0), 1);
        x.advance(1);
        Due.fails("a minute after", Boundaries.NO_ELEMENT, () -> x.tokenHolder(0));
    }

    @Sentence(under = "Promise 16", value = "- `other`: the index of another station, possibly the same")
    static void distanceToItself() {
        SingleTrackLine x = Scenes.on(Scenes::makeFull);
        for (int station = 0; station < 7; station++) {
            Due.is("from " + station + " to itself", x.distance(station, station), 0);
        }
        Due.is("to the next one", x.distance(0, 1), 2);
        Due.is("to the last one", x.distance(0, 6), 27);
        Due.is("and back", x.distance(6, 0), 27);
        Due.is("the longest", Scenes.line(1, 30, 1, 30, 1, 30, 1, 30, 1, 30, 1, 30, 1, 30).distance(0, 6), 180);
    }

    @Sentence(under = "Promise 16", value = "Throws `IndexOutOfBoundsException` if one of the stations does not exist")
    static void distanceOfNoStation() {
        Due.is("the first and the last", Scenes.busy().distance(0, 2), 13);
        Refusal.ofNoStation((x, station) -> x.distance(station, 0));
        Refusal.ofNoStation((x, station) -> x.distance(0, station));
        Refusal.ofNoStation((x, station) -> x.distance(station, station));
    }

    @Sentence(under = "Promise 17", value = "- `other`: the index of another station, possibly the same")
    static void positionsOfTheSame() {
        SingleTrackLine x = Scenes.on(Scenes::makeFull);
        for (int station = 0; station < 7; station++) {
            Due.is("from " + station + " to itself", x.distanceByPositions(station, station), 0);
        }
        Due.is("to the next one", x.distanceByPositions(0, 1), 2);
        Due.is("to the last one", x.distanceByPositions(0, 6), 27);
        Due.is("and back", x.distanceByPositions(6, 0), 27);
        SingleTrackLine y = Scenes.line(1, 30, 1, 30, 1, 30, 1, 30, 1, 30, 1, 30, 1, 30);
        Due.is("the longest", y.distanceByPositions(6, 0), 180);
    }

    @Sentence(under = "Promise 17", value = "Throws `IndexOutOfBoundsException` if one of the stations does not exist")
    static void positionsOfNoStation() {
        Due.is("the first and the last", Scenes.busy().distanceByPositions(2, 0), 13);
        Refusal.ofNoStation((x, station) -> x.distanceByPositions(station, 0));
        Refusal.ofNoStation((x, station) -> x.distanceByPositions(0, station));
        Refusal.ofNoStation((x, station) -> x.distanceByPositions(station, station));
    }
}
