/** The boundary cases of "What it is", and of "Terms" but for programs and undo. */
public final class TermsBoundariesTest {
    public static void main(String[] args) throws ReflectiveOperationException {
        Boundaries.ask(TermsBoundariesTest.class);
    }

    // ---- what it is

    @Sentence(under = "What it is", value =
            "An object is used for at most 512 calls after it has been made; what later calls answer is free.")
    static void theLastCall() {
        SingleTrackLine x = Scenes.line(1, 1, 1, 1);
        for (int call = 3; call < 512; call++) {
            x.advance(60);
        }
        Due.is("the 512th call, time", x.time(), 509 * 60);
        SingleTrackLine y = Scenes.line(1, 1, 1, 1);
        for (int call = 3; call < 512; call++) {
            y.advance(60);
        }
        Due.is("the 512th call, undo", y.undo(), 7);
        SingleTrackLine z = Scenes.line(1, 1, 1, 1);
        for (int call = 3; call < 511; call++) {
            z.advance(60);
        }
        Due.is("the 511th call, addTrain", z.addTrain(1, 0, 99), 1);
        Due.is("the 512th call, plannedArrival", z.plannedArrival(1), 508 * 60 + 99 + 2);
    }

    // ---- line

    @Sentence(under = "Terms", value = "The line has at most 7 stations with the indices 0 to s - 1 in a row.")
    static void stationsFrom0() {
        SingleTrackLine x = new SingleTrackLine();
        Due.fails("the index 0 of no station", Boundaries.INDEX, () -> x.tracks(0));
        for (int last = 0; last < 7; last++) {
            Due.is("the station's index", x.addStation(1, 1), last);
            Due.is("the first index, last is " + last, x.tracks(0), 1);
            Due.is("the last index, it is " + last, x.tracks(last), 1);
            for (int station : Boundaries.outside(0, last)) {
                Due.fails("the index " + station + ", last is " + last, Boundaries.INDEX, () -> x.tracks(station));
            }
        }
        Refusal.of("an eighth station", Boundaries.STATE, Scenes::makeFull, y -> y.addStation(1, 1));
    }

    @Sentence(under = "Terms", value = "The section i, from 0, connects the stations i and i + 1.")
    static void sectionsFrom0() {
        SingleTrackLine x = new SingleTrackLine();
        Due.fails("the section 0 of no station", Boundaries.INDEX, () -> x.runningTime(0));
        Due.fails("the section -1 of no station", Boundaries.INDEX, () -> x.runningTime(-1));
        for (int last = 0; last < 7; last++) {
            x.addStation(1, 10 + last);
            for (int section = 0; section < last; section++) {
                Due.is("section " + section, x.runningTime(section), 11 + section);
                Due.is("what it connects", x.distance(section, section + 1), 11 + section);
            }
            for (int section : Boundaries.outside(0, last - 1)) {
                Due.fails("section " + section + ", last station " + last, Boundaries.INDEX, () -> x.runningTime(section));
            }
        }
    }

    @Sentence(under = "Terms", value = "A section has a running time from 1 to 30 minutes.")
    static void runningTimesFrom1To30() {
        SingleTrackLine x = Scenes.line(1, 1, 1, 1, 1, 30);
        Due.is("1 minute", x.runningTime(0), 1);
        Due.is("30 minutes", x.runningTime(1), 30);
        for (int minutes : Boundaries.outside(1, 30)) {
            Refusal.of("running time " + minutes, Boundaries.ARGUMENT, Scenes::makeBusy, y -> y.addStation(1, minutes));
        }
        x.addTrain(0, 2, 1);
        x.advance(2);
        Due.is("a minute left", x.remainingTime(1), 1);
        x.advance(2);
        Due.is("30 minutes left", x.remainingTime(1), 30);
    }

    @Sentence(under = "Terms", value = "A station has from 1 to 4 tracks.")
    static void tracksFrom1To4() {
        SingleTrackLine x = Scenes.line(1, 1, 4, 1);
        Due.is("1 track", x.freeTracks(0), 1);
        Due.is("4 tracks", x.freeTracks(1), 4);
        Due.is("1 track becomes 4", x.setTracks(0, 4), 1);
        Due.is("4 tracks become 1", x.setTracks(1, 1), 4);
        for (int tracks : Boundaries.outside(1, 4)) {
            Refusal.of("a station with tracks " + tracks, Boundaries.ARGUMENT, Scenes::makeBusy, y -> y.addStation(tracks, 1));
            Refusal.of("tracks set to " + tracks, Boundaries.ARGUMENT, Scenes::makeBusy, y -> y.setTracks(2, tracks));
        }
    }

    // ---- trains

    @Sentence(under = "Terms", value = "There are at most 6 trains.")
    static void sixTrains() {
        SingleTrackLine x = Scenes.line(1, 1, 1, 1);
        for (int count = 1; count <= 6; count++) {
            Due.is("train " + count, x.addTrain(0, 1, count == 1 ? 1 : 99), count);
            Due.is("trainCount", x.trainCount(), count);
        }
        Due.fails("a seventh", Boundaries.STATE, () -> x.addTrain(0, 1, 1));
        x.advance(2);
        Due.fails("a seventh while one is in a section", Boundaries.STATE, () -> x.addTrain(0, 1, 1));
        x.advance(1);
        Due.is("when one has finished", x.addTrain(0, 1, 99), 7);
        Due.fails("then they are six again", Boundaries.STATE, () -> x.addTrain(0, 1, 1));
        x.cancelTrain(2);
        Due.is("when one was cancelled", x.addTrain(0, 1, 99), 8);
        Due.is("trainCount", x.trainCount(), 6);
        Refusal.of("a seventh train", Boundaries.STATE, Scenes::makeSixTrains, y -> y.addTrain(0, 1, 1));
    }

    @Sentence(under = "Terms", value = "Each train that is added gets a number, beginning with 1 and increasing by 1 for "
            + "each further train; numbers are not used twice.")
    static void numbersFrom1() {
        SingleTrackLine x = Scenes.line(1, 1, 1, 1);
        for (int number = 1; number < 255; number++) {
            Due.is("the number", x.addTrain(0, 1, 1), number);
            x.cancelTrain(number);
        }
        Due.is("the greatest number that 512 calls reach one by one", x.addTrain(0, 1, 1), 255);
        Due.is("it exists", x.exists(255), true);

        SingleTrackLine y = Scenes.line(1, 1, 1, 1);
        Due.fails("a refused train", Boundaries.ARGUMENT, () -> y.addTrain(0, 1, 100));
        Due.is("a refused train uses up no number", y.addTrain(0, 1, 1), 1);
        y.advance(3);
        Due.is("the number of one that has finished is not used again", y.addTrain(0, 1, 1), 2);
        y.cancelTrain(2);
        Due.is("the number of one that was cancelled is not used again", y.addTrain(0, 1, 1), 3);
    }

    @Sentence(under = "Terms", value =
            "A train has a start station, another station as its destination, and a departure time.")
    static void anotherStation() {
        SingleTrackLine x = Scenes.on(Scenes::makeFull);
        for (int station = 0; station < 7; station++) {
            int here = station;
            Due.fails("from " + here + " to itself", Boundaries.ARGUMENT, () -> x.addTrain(here, here, 1));
            int there = station < 6 ? station + 1 : 5;
            x.cancelTrain(x.addTrain(here, there, 1));
            Due.is("trains from " + here + " to its neighbour were taken", x.addTrain(there, here, 1), 2 * station + 2);
            x.cancelTrain(2 * station + 2);
        }
        Refusal.of("a train to where it is", Boundaries.ARGUMENT, Scenes::makeOneStation, y -> y.addTrain(0, 0, 1));
    }

    @Sentence(under = "Terms", value =
            "A train is expected, at a station, or in a section; initially it is expected.")
    static void initiallyExpected() {
        SingleTrackLine x = Scenes.line(1, 1, 1, 2, 1, 1);
        x.addTrain(0, 2, 1);
        String[] due = {"expected", "station 0", "section 0", "section 0", "station 1", "section 1"};
        for (int minute = 0; minute < due.length; minute++) {
            Due.is("in minute " + minute, place(x), due[minute]);
            x.advance(1);
        }
        Due.is("in the end it is none of them", x.exists(1), false);
    }

    /** Where train 1 is; the queries of the other places are refused. */
    private static String place(SingleTrackLine x) {
        String station = Scenes.answer(() -> x.stationOf(1));
        String section = Scenes.answer(() -> x.sectionOf(1));
        String text = x.isExpected(1) ? "expected " : "";
        text += station.length() == 1 ? "station " + station + " " : "";
        text += section.length() == 1 ? "section " + section + " " : "";
        return text.trim();
    }

    @Sentence(under = "Terms", value = "It is held or not, and initially not.")
    static void initiallyNotHeld() {
        SingleTrackLine x = Scenes.on(Scenes::makeSixTrains);
        for (int number = 1; number <= 6; number++) {
            Due.is("a new one", x.isHeld(number), false);
            x.hold(number);
            Due.is("one that was held", x.isHeld(number), true);
        }
        for (int number = 7; number <= 12; number++) {
            int added = number;
            x.cancelTrain(number - 6);
            x.addTrain(0, 1, 1);
            Due.is("a new one in place of one that was held", x.isHeld(number), false);
            Due.fails("it cannot be released", Boundaries.STATE, () -> x.releaseTrain(added));
            Due.is("but held", x.hold(number), 6);
        }
    }

    @Sentence(under = "Terms", value = "It has a number of waited minutes, initially 0.")
    static void initially0Waited() {
        SingleTrackLine x = Scenes.line(4, 1, 1, 9, 4, 9);
        x.hold(x.addTrain(1, 0, 1));
        for (int number = 2; number <= 6; number++) {
            x.addTrain(number % 2 * 2, 2 - number % 2 * 2, 1);
            Due.is("initially", x.waitedMinutes(number), 0);
        }
        x.advance(1);
        Due.is("when it came", x.waitedMinutes(6), 0);
        x.advance(1);
        Due.is("a minute later", x.waitedMinutes(6), 1);
        for (int number = 8; number <= 12; number++) {
            Due.is("one that has waited", x.waitedMinutes(number - 6), 1);
            x.cancelTrain(number - 6);
            x.addTrain(0, 1, 1);
            Due.is("a new one in its place", x.waitedMinutes(number - 1), 0);
        }
    }

    @Sentence(under = "Terms", value = {"A train always runs towards its destination.",
        "Its next section is the section between its station and the next station in this direction."})
    static void fromEndToEnd() {
        SingleTrackLine x = Scenes.line(1, 1, 1, 1, 1, 1, 1, 1, 1, 1, 1, 1, 1, 1);
        x.addTrain(0, 6, 1);
        x.addTrain(6, 0, 20);
        x.advance(1);
        for (int section = 0; section < 6; section++) {
            Due.is("up, the station", x.stationOf(1), section);
            x.advance(1);
            Due.is("up, the section", x.sectionOf(1), section);
            x.advance(1);
        }
        Due.is("finished at the last station", x.exists(1), false);
        x.advance(7);
        for (int section = 5; section >= 0; section--) {
            Due.is("down, the station", x.stationOf(2), section + 1);
            x.advance(1);
            Due.is("down, the section", x.sectionOf(2), section);
            x.advance(1);
        }
        Due.is("finished at the first station", x.exists(2), false);
    }

    // ---- tokens

    @Sentence(under = "Terms", value = "Each section has one token.")
    static void oneToken() {
        SingleTrackLine x = Scenes.line(2, 1, 2, 3);
        x.addTrain(0, 1, 1);
        x.addTrain(0, 1, 1);
        x.addTrain(1, 0, 1);
        x.advance(1);
        Due.is("nobody holds it", x.isTokenFree(0), true);
        int[] due = {1, 1, 1, 2, 2, 2, 3, 3, 3};
        for (int minute = 0; minute < due.length; minute++) {
            x.advance(1);
            Due.is("who holds it after so many minutes: " + minute, x.tokenHolder(0), due[minute]);
        }
        x.advance(1);
        Due.is("nobody holds it in the end", x.isTokenFree(0), true);
    }

    @Sentence(under = "Terms", value =
            "A train in a section holds the token of this section, and no other train is in the section.")
    static void noOtherTrainInTheSection() {
        SingleTrackLine x = Scenes.line(1, 1, 4, 4, 1, 4);
        x.addTrain(0, 2, 1);
        x.addTrain(1, 0, 2);
        x.addTrain(1, 2, 2);
        x.addTrain(1, 2, 2);
        x.advance(3);
        Due.is("one in each section, the others stand", Scenes.drawing(x), "[]>1[2,4]>3[]");
        Due.is("the token of section 0", x.tokenHolder(0), 1);
        Due.is("the token of section 1", x.tokenHolder(1), 3);
        x.advance(2);
        Due.is("still so in their last minute", Scenes.drawing(x), "[]>1[2,4]>3[]");
    }

    @Sentence(under = "Terms", value = "A train at a station occupies one track of the station.")
    static void oneTrackEach() {
        SingleTrackLine x = Scenes.line(4, 1, 1, 30);
        for (int number = 1; number <= 5; number++) {
            x.hold(x.addTrain(0, 1, number));
        }
        Due.is("none is there", x.freeTracks(0), 4);
        for (int there = 1; there <= 4; there++) {
            x.advance(1);
            Due.is("trains there", x.trainsAt(0), there);
            Due.is("tracks left", x.freeTracks(0), 4 - there);
        }
        x.advance(1);
        Due.is("a fifth one finds none", x.isExpected(5), true);
        Due.is("four are there", x.trainsAt(0), 4);
    }

    @Sentence(under = "Terms", value = "A train in a section has reserved one track of the station to which it runs, "
            + "unless this station is its destination.")
    static void reservedUnlessDestination() {
        SingleTrackLine x = Scenes.line(1, 1, 1, 2, 1, 2);
        x.addTrain(0, 2, 1);
        x.advance(1);
        Due.is("before it runs there", x.freeTracks(1), 1);
        x.advance(1);
        Due.is("reserved on the way", x.freeTracks(1), 0);
        x.advance(1);
        Due.is("reserved still", x.freeTracks(1), 0);
        x.advance(2);
        Due.is("none is reserved at its destination", x.freeTracks(2), 1);
        Due.is("and none any more where it was", x.freeTracks(1), 1);
        x.advance(1);
        Due.is("none in its last minute", x.freeTracks(2), 1);
    }

    @Sentence(under = "Terms", value =
            "The free tracks of a station are its tracks minus the occupied and the reserved ones.")
    static void freeTracksDownTo0() {
        SingleTrackLine x = Scenes.line(1, 1, 3, 9, 1, 9);
        Due.is("all", x.freeTracks(1), 3);
        x.hold(x.addTrain(1, 0, 1));
        x.advance(1);
        Due.is("minus an occupied one", x.freeTracks(1), 2);
        x.addTrain(0, 2, 1);
        x.addTrain(2, 0, 1);
        x.advance(2);
        Due.is("minus two reserved ones", x.freeTracks(1), 0);
        x.setTracks(1, 4);
        Due.is("plus one", x.freeTracks(1), 1);
        x.setTracks(1, 3);
        Due.fails("never less than 0", Boundaries.STATE, () -> x.setTracks(1, 2));
        Due.is("none left", x.freeTracks(1), 0);
    }

    // ---- one minute

    @Sentence(under = "Terms", value = "The time, which is initially 0, increases by 1.")
    static void timeFrom0() {
        SingleTrackLine x = new SingleTrackLine();
        Due.is("initially", x.time(), 0);
        x.advance(1);
        Due.is("a minute later", x.time(), 1);
        for (int call = 4; call < 512; call++) {
            x.advance(60);
        }
        Due.is("the latest time of 512 calls", x.time(), 508 * 60 + 1);
    }

    @Sentence(under = "Terms", value = {"The remaining time of each train in a section decreases by 1.",
        "If it is 0 then, the train arrives: it returns the token."})
    static void remainingTimeDownTo0() {
        SingleTrackLine x = Scenes.line(1, 1, 1, 2, 1, 1);
        x.addTrain(0, 2, 1);
        x.advance(2);
        Due.is("just left", x.remainingTime(1), 2);
        x.advance(1);
        Due.is("a minute later", x.remainingTime(1), 1);
        Due.is("it holds the token", x.tokenHolder(0), 1);
        x.advance(1);
        Due.is("another minute later it has arrived", x.stationOf(1), 1);
        Due.is("and has returned the token", x.isTokenFree(0), true);
        x.advance(1);
        Due.is("a running time of 1", x.remainingTime(1), 1);
        Due.is("one minute later it has finished", x.advance(1), 1);
        Due.is("and has returned the token", x.isTokenFree(1), true);
    }

    @Sentence(under = "Terms", value =
            "If the station is its destination, the train is finished, and it leaves the line at once.")
    static void finishedAtOnce() {
        SingleTrackLine x = Scenes.line(1, 1, 1, 3);
        x.hold(x.addTrain(1, 0, 1));
        x.addTrain(0, 1, 1);
        x.advance(4);
        Due.is("a minute before", x.finishedTrains(), 0);
        Due.is("it is on the line", x.trainCount(), 2);
        x.advance(1);
        Due.is("finished, though the destination has no free track", x.finishedTrains(), 1);
        Due.is("the destination had none", x.freeTracks(1), 0);
        Due.is("it is not on the line", x.trainCount(), 1);
        Due.is("it is not at its destination", x.trainsAt(1), 1);
    }

    @Sentence(under = "Terms", value =
            "Otherwise it is at the station, where its reserved track becomes an occupied one.")
    static void reservedBecomesOccupied() {
        SingleTrackLine x = Scenes.line(1, 1, 2, 3, 1, 9);
        x.addTrain(0, 2, 1);
        x.advance(4);
        Due.is("reserved", x.freeTracks(1), 1);
        Due.is("not there", x.trainsAt(1), 0);
        x.advance(1);
        Due.is("occupied, but no second one", x.freeTracks(1), 1);
        Due.is("there", x.trainsAt(1), 1);
        x.advance(1);
        Due.is("free again when it has left", x.freeTracks(1), 2);
    }

    @Sentence(under = "Terms", value = "Each expected train whose departure time is not greater than the time comes to "
            + "its start station, if this station has a free track.")
    static void comesWithTheDepartureTime() {
        SingleTrackLine x = Scenes.line(1, 1, 1, 9);
        x.addTrain(0, 1, 3);
        x.addTrain(0, 1, 3);
        x.advance(2);
        Due.is("the departure time is greater than the time by 1", x.isExpected(1), true);
        x.advance(1);
        Due.is("they are the same", x.isExpected(1), false);
        Due.is("no free track for the other one", x.isExpected(2), true);
        x.advance(1);
        Due.is("no free track in the third step, though there is one after the fourth", x.isExpected(2), true);
        Due.is("one after the fourth", x.freeTracks(0), 1);
        x.advance(1);
        Due.is("the departure time is less than the time by 2", x.isExpected(2), false);

        SingleTrackLine y = Scenes.line(1, 1, 1, 9);
        y.hold(y.addTrain(0, 1, 1));
        y.addTrain(0, 1, 1);
        y.advance(9);
        Due.is("no free track for many minutes", y.isExpected(2), true);
        y.setTracks(0, 2);
        y.advance(1);
        Due.is("a second track", y.isExpected(2), false);
        SingleTrackLine z = Scenes.line(1, 1, 1, 9);
        z.addTrain(0, 1, 99);
        z.advance(60);
        z.advance(38);
        Due.is("98 minutes later", z.isExpected(1), true);
        z.advance(1);
        Due.is("99 minutes later", z.isExpected(1), false);
    }

    @Sentence(under = "Terms", value = "Each train that is at a station, did not come to it in this minute, and is not "
            + "held, tries to leave: if the token of its next section is free, and the next station is its destination or "
            + "has a free track, the train takes the token, leaves its track, reserves a track of the next station unless "
            + "it is its destination, and its remaining time is the running time of the section.")
    static void triesToLeave() {
        SingleTrackLine x = Scenes.line(1, 1, 1, 4, 1, 1);
        x.addTrain(0, 2, 1);
        x.advance(1);
        Due.is("in the minute in which it came from outside", Scenes.drawing(x), "[1]-[]-[]");
        x.advance(1);
        Due.is("a minute later", Scenes.drawing(x), "[]>1[]-[]");
        Due.is("its remaining time", x.remainingTime(1), 4);
        x.advance(4);
        Due.is("in the minute in which it came from a section", Scenes.drawing(x), "[]-[1]-[]");
        Due.is("that is no waiting", x.waitedMinutes(1), 0);
        x.advance(1);
        Due.is("a minute later", Scenes.drawing(x), "[]-[]>1[]");

        SingleTrackLine track = trainsOneAfterTheOther(2);
        track.advance(1);
        Due.is("the token is free, but no track", Scenes.drawing(track), "[2]-[1]-[]");
        track.setTracks(1, 2);
        track.advance(1);
        Due.is("both are free", Scenes.drawing(track), "[]>2[1]-[]");
        SingleTrackLine destination = trainsOneAfterTheOther(1);
        destination.advance(1);
        Due.is("no track is free, but it is the destination", Scenes.drawing(destination), "[]>2[1]-[]");
        SingleTrackLine token = Scenes.line(2, 1, 4, 3, 1, 1);
        token.addTrain(0, 1, 1);
        token.addTrain(0, 2, 1);
        token.advance(4);
        Due.is("tracks are free, but not the token", Scenes.drawing(token), "[2]>1[]-[]");
        token.advance(1);
        Due.is("both are free", Scenes.drawing(token), "[]>2[]-[]");
        SingleTrackLine held = Scenes.line(1, 1, 1, 4);
        held.hold(held.addTrain(0, 1, 1));
        held.advance(5);
        Due.is("held", Scenes.drawing(held), "[1]-[]");
        held.releaseTrain(1);
        held.advance(1);
        Due.is("not held", Scenes.drawing(held), "[]>1[]");
    }

    /** At time 3: train 1 is held on the only track of station 1; train 2, to the destination given, is at station 0. */
    private static SingleTrackLine trainsOneAfterTheOther(int destination) {
        SingleTrackLine x = Scenes.line(1, 1, 1, 4, 1, 4);
        x.hold(x.addTrain(1, 2, 1));
        x.addTrain(0, destination, 3);
        x.advance(3);
        return x;
    }

    @Sentence(under = "Terms", value = "Otherwise its waited minutes increase by 1.")
    static void waitsMinuteByMinute() {
        SingleTrackLine x = Scenes.line(2, 1, 1, 30);
        x.addTrain(0, 1, 1);
        x.addTrain(0, 1, 1);
        x.advance(1);
        for (int waited = 1; waited <= 30; waited++) {
            x.advance(1);
            Due.is("after so many minutes", x.waitedMinutes(2), waited);
        }
        x.advance(1);
        Due.is("it has left and waits no more", x.waitedMinutes(2), 30);
        x.advance(29);
        Due.is("nor in its section", x.waitedMinutes(2), 30);

        SingleTrackLine y = Scenes.line(1, 1, 1, 1, 1, 1);
        y.hold(y.addTrain(1, 2, 1));
        y.addTrain(0, 2, 1);
        for (int call = 7; call < 512; call++) {
            y.advance(60);
        }
        Due.is("the longest waiting of 512 calls", y.waitedMinutes(2), 505 * 60 - 1);
    }

    @Sentence(under = "Terms", value = "The trains are visited by departure time in ascending order, and trains with the "
            + "same departure time in the order of their numbers.")
    static void departureThenNumber() {
        Due.is("the same departure time", Scenes.drawing(twoThatWait(5, 5)), "[2]>1[]");
        Due.is("the lower number departs a minute later", Scenes.drawing(twoThatWait(6, 5)), "[1]>2[]");
        Due.is("the lower number departs a minute earlier", Scenes.drawing(twoThatWait(5, 6)), "[2]>1[]");
    }

    /** Two trains are held until both are there, and then one of them leaves. */
    private static SingleTrackLine twoThatWait(int first, int second) {
        SingleTrackLine x = Scenes.line(2, 1, 1, 9);
        x.hold(x.addTrain(0, 1, first));
        x.hold(x.addTrain(0, 1, second));
        x.advance(8);
        x.releaseTrain(1);
        x.releaseTrain(2);
        x.advance(1);
        return x;
    }

    @Sentence(under = "Terms", value =
            "A track or a token that becomes free by a train can be used by the trains after it.")
    static void freedForTheTrainsAfterIt() {
        SingleTrackLine x = Scenes.line(1, 1, 1, 5, 1, 5);
        x.addTrain(1, 2, 1);
        x.addTrain(0, 2, 1);
        x.advance(2);
        Due.is("a track, by the train after it", Scenes.drawing(x), "[]>2[]>1[]");
        SingleTrackLine y = Scenes.line(1, 1, 1, 5, 1, 5);
        y.addTrain(0, 2, 1);
        y.addTrain(1, 2, 1);
        y.advance(2);
        Due.is("not by the train before it", Scenes.drawing(y), "[1]-[]>2[]");
        SingleTrackLine z = Scenes.line(1, 1, 1, 3);
        z.addTrain(0, 1, 1);
        z.addTrain(1, 0, 1);
        z.advance(4);
        Due.is("a token is held for 3 minutes", Scenes.drawing(z), "[]>1[2]");
        z.advance(1);
        Due.is("the arriving train frees it for the other one", Scenes.drawing(z), "[]<2[]");
    }

    @Sentence(under = "Terms", value = "A train that is held at a station does not change in the fourth step; its waited "
            + "minutes do not increase.")
    static void heldTrainsDoNotWait() {
        SingleTrackLine x = Scenes.line(2, 1, 1, 30);
        x.addTrain(0, 1, 1);
        x.addTrain(0, 1, 1);
        x.advance(3);
        Due.is("waits while it is not held", x.waitedMinutes(2), 2);
        x.hold(2);
        x.advance(20);
        Due.is("does not while it is", x.waitedMinutes(2), 2);
        x.releaseTrain(2);
        x.advance(1);
        Due.is("waits again", x.waitedMinutes(2), 3);
        x.hold(2);
        x.advance(30);
        Due.is("does not leave while it is held", x.stationOf(2), 0);
        Due.is("the token is free", x.isTokenFree(0), true);
    }

    // ---- plan

    @Sentence(under = "Terms", value = "The planned arrival of a train is its departure time, plus the running times of "
            + "all sections between its start station and its destination, plus 1 for each of these sections.")
    static void fromOneSectionToSix() {
        SingleTrackLine x = Scenes.line(1, 1, 1, 1, 1, 30, 1, 30, 1, 30, 1, 30, 1, 30);
        Due.is("one section of a minute, departure in a minute", x.plannedArrival(x.addTrain(0, 1, 1)), 3);
        Due.is("the same downwards", x.plannedArrival(x.addTrain(1, 0, 1)), 3);
        Due.is("six sections, departure in 99 minutes", x.plannedArrival(x.addTrain(0, 6, 99)), 99 + 151 + 6);
        Due.is("the same downwards", x.plannedArrival(x.addTrain(6, 0, 99)), 99 + 151 + 6);
        Due.is("the last section", x.plannedArrival(x.addTrain(6, 5, 1)), 1 + 30 + 1);
        Due.is("two in between", x.plannedArrival(x.addTrain(3, 1, 1)), 1 + 60 + 2);
    }

    @Sentence(under = "Terms", value =
            "The delay of a finished train is the time of its arrival minus its planned arrival.")
    static void delaysFrom0() {
        for (int delay = 0; delay <= 2; delay++) {
            SingleTrackLine x = Scenes.line(1, 1, 1, 3);
            x.addTrain(0, 1, 1);
            x.hold(1);
            x.advance(delay + 1);
            x.releaseTrain(1);
            x.advance(4);
            Due.is("the delay of a train that was held too long by " + delay, x.totalDelay(), delay);
        }
    }

    // ---- exceptions, the rest is asked in the tests of each promise

    @Sentence(under = "Terms", value = "If a call throws an exception, nothing changes, except that run empties the text "
            + "buffer and stores the error position or the failed command.")
    static void refusedCallsChangeNothing() {
        RefusedCalls calls = new RefusedCalls();
        for (RefusedCalls.One one : calls.list()) {
            Refusal.of(one.name + " throws " + one.kind.getSimpleName(), one.kind, one.scene, one.call);
        }
        Due.is("what the face declares and is not asked", calls.missing(), "");
        Refusal.ofText("wait 6;wait 0;x", 14, Scenes::makeBusy);
        Refusal.ofCommand("wait 6;wait 0;go 3", 1, Scenes::makeBusy);
    }

    @Sentence(under = "Terms", value =
            "If several conditions of a method apply, the exception that is listed first is thrown.")
    static void theFirstOfSeveral() {
        Scenes.Call full = Scenes::makeFull;
        Refusal.of("tracks 0 and seven stations", Boundaries.ARGUMENT, full, x -> x.addStation(0, 1));
        Refusal.of("running time 31 and seven stations", Boundaries.ARGUMENT, full, x -> x.addStation(1, 31));
        Scenes.Call busy = Scenes::makeBusy;
        Refusal.of("no station and 5 tracks", Boundaries.INDEX, busy, x -> x.setTracks(3, 5));
        Refusal.of("0 tracks and one is occupied", Boundaries.ARGUMENT, busy, x -> x.setTracks(0, 0));
        Scenes.Call six = Scenes::makeSixTrains;
        Refusal.of("no start and six trains", Boundaries.INDEX, six, x -> x.addTrain(3, 0, 1));
        Refusal.of("no destination and 100 minutes", Boundaries.INDEX, busy, x -> x.addTrain(0, 3, 100));
        Refusal.of("the same station that does not exist", Boundaries.INDEX, busy, x -> x.addTrain(-1, -1, 1));
        Refusal.of("all four", Boundaries.INDEX, six, x -> x.addTrain(3, 3, 0));
        Refusal.of("the same station and six trains", Boundaries.ARGUMENT, six, x -> x.addTrain(1, 1, 1));
        Refusal.of("0 minutes and six trains", Boundaries.ARGUMENT, six, x -> x.addTrain(0, 1, 0));
        Refusal.of("no section, the token of which nobody holds", Boundaries.INDEX, busy, x -> x.tokenHolder(2));
        Refusal.of("no train, which is not at a station", Boundaries.NO_ELEMENT, busy, x -> x.stationOf(5));
        Refusal.of("no train, which is not in a section", Boundaries.NO_ELEMENT, busy, x -> x.sectionOf(5));
        Refusal.of("no train, which has no time left", Boundaries.NO_ELEMENT, busy, x -> x.remainingTime(5));
        Refusal.of("no train, which is not held", Boundaries.NO_ELEMENT, busy, x -> x.releaseTrain(5));
        Refusal.of("no train, which is not expected", Boundaries.NO_ELEMENT, busy, x -> x.arrivalAlone(5));
        Refusal.ofText("hold 9;", 7, busy);
    }
}
