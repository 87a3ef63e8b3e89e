/** The boundary cases of the promises 4 to 8 and 18 to 26: trains, minutes, and the queries about trains. */
public final class TrainBoundariesTest {
    public static void main(String[] args) throws ReflectiveOperationException {
        Boundaries.ask(TrainBoundariesTest.class);
    }

    // ---- addTrain

    @Sentence(under = "Promise 4", value = "- `minutes`: the number of minutes from now until its departure time, 1 to 99")
    static void departsIn1To99() {
        SingleTrackLine x = Scenes.line(1, 1, 1, 1);
        x.advance(60);
        x.addTrain(0, 1, 1);
        x.addTrain(0, 1, 99);
        Due.is("in a minute", Scenes.sign(x, 1), "1:0>1@61");
        Due.is("in 99 minutes", Scenes.sign(x, 2), "2:0>1@159");
        Due.fails("now", Boundaries.ARGUMENT, () -> x.addTrain(0, 1, 0));
        Due.fails("in 100 minutes", Boundaries.ARGUMENT, () -> x.addTrain(0, 1, 100));
        x.advance(1);
        Due.is("it is there in a minute", x.stationOf(1), 0);
    }

    @Sentence(under = "Promise 4", value = "Throws `IndexOutOfBoundsException` if one of the stations does not exist")
    static void betweenNoStations() {
        Due.is("from the first to the last", Scenes.busy().addTrain(0, 2, 1), 6);
        Due.is("from the last to the first", Scenes.busy().addTrain(2, 0, 1), 6);
        Due.is("to the last of seven", Scenes.on(Scenes::makeFull).addTrain(5, 6, 1), 1);
        Refusal.ofNoStation((x, station) -> x.addTrain(station, 0, 1));
        Refusal.ofNoStation((x, station) -> x.addTrain(0, station, 1));
        Refusal.ofNoStation((x, station) -> x.addTrain(station, station, 0));
    }

    @Sentence(under = "Promise 4", value = "Throws `IllegalArgumentException` if both stations are the same, or the number "
            + "of minutes is out of range")
    static void addTrainOutOfRange() {
        for (int minutes : Boundaries.outside(1, 99)) {
            Refusal.of("in " + minutes + " minutes", Boundaries.ARGUMENT, Scenes::makeBusy, x -> x.addTrain(0, 1, minutes));
            Refusal.of("to itself in " + minutes, Boundaries.ARGUMENT, Scenes::makeBusy, x -> x.addTrain(2, 2, minutes));
        }
        for (int station = 0; station <= 2; station++) {
            int same = station;
            Refusal.of("from " + same + " to itself", Boundaries.ARGUMENT, Scenes::makeBusy, x -> x.addTrain(same, same, 1));
        }
        Due.is("in a minute, to the next station", Scenes.busy().addTrain(0, 1, 1), 6);
        Due.is("in 99 minutes, to the station before", Scenes.busy().addTrain(1, 0, 99), 6);
    }

    @Sentence(under = "Promise 4", value = "Throws `IllegalStateException` if there are 6 trains")
    static void aSeventhTrain() {
        SingleTrackLine x = Scenes.on(Scenes::makeSixTrains);
        Due.fails("with six trains", Boundaries.STATE, () -> x.addTrain(0, 1, 1));
        x.cancelTrain(6);
        Due.is("with five trains", x.addTrain(0, 1, 1), 7);
        Due.fails("with six again", Boundaries.STATE, () -> x.addTrain(0, 1, 1));
        x.undo();
        Due.is("with five again", x.addTrain(2, 0, 99), 7);
        Refusal.of("the least", Boundaries.STATE, Scenes::makeSixTrains, y -> y.addTrain(0, 1, 1));
        Refusal.of("the greatest", Boundaries.STATE, Scenes::makeSixTrains, y -> y.addTrain(2, 0, 99));
    }

    // ---- hold

    @Sentence(under = "Promise 5", value = "A train that is expected or in a section goes on until it is at a station.")
    static void heldGoesOnToAStation() {
        SingleTrackLine x = Scenes.line(1, 1, 1, 2, 1, 2);
        x.hold(x.addTrain(0, 2, 2));
        x.advance(1);
        Due.is("held, a minute before it comes", x.isExpected(1), true);
        x.advance(1);
        Due.is("it comes", x.stationOf(1), 0);
        x.advance(1);
        Due.is("it does not go on from there", x.stationOf(1), 0);
        x.releaseTrain(1);
        x.advance(1);
        x.hold(1);
        Due.is("held as soon as it has left", x.remainingTime(1), 2);
        x.advance(1);
        Due.is("it goes on in its section", x.remainingTime(1), 1);
        x.advance(1);
        Due.is("until it is at a station", x.stationOf(1), 1);
        x.advance(9);
        Due.is("and there it stays", x.stationOf(1), 1);
        x.releaseTrain(1);
        x.advance(2);
        x.hold(1);
        Due.is("held in the last minute before its destination, it finishes", x.advance(1), 1);
    }

    @Sentence(under = "Promise 5", value = "Returns the number of trains that are held after the call.")
    static void from1To6Held() {
        SingleTrackLine x = Scenes.on(Scenes::makeSixTrains);
        for (int number = 1; number <= 6; number++) {
            Due.is("held with train " + number, x.hold(number), number);
        }
        x.cancelTrain(6);
        Due.is("one that was cancelled is not held", x.hold(x.addTrain(0, 1, 1)), 6);
    }

    @Sentence(under = "Promise 5", value = "Throws `NoSuchElementException` if there is no such train")
    static void holdNoTrain() {
        Due.is("the first", Scenes.busy().hold(1), 2);
        Due.is("the last", Scenes.busy().hold(4), 2);
        Due.is("the last of six", Scenes.on(Scenes::makeSixTrains).hold(6), 1);
        Refusal.ofNoTrain(SingleTrackLine::hold);
    }

    @Sentence(under = "Promise 5", value = "Throws `IllegalStateException` if the train is held")
    static void holdAHeldTrain() {
        Refusal.of("at a station", Boundaries.STATE, Scenes::makeBusy, x -> x.hold(3));
        SingleTrackLine x = Scenes.line(1, 1, 1, 3);
        x.addTrain(0, 1, 1);
        Due.is("not held", x.hold(1), 1);
        Due.fails("expected and held", Boundaries.STATE, () -> x.hold(1));
        x.releaseTrain(1);
        x.advance(2);
        Due.is("in a section and not held", x.hold(1), 1);
        Due.fails("in a section and held", Boundaries.STATE, () -> x.hold(1));
    }

    // ---- releaseTrain

    @Sentence(under = "Promise 6", value = "Returns the number of trains that are held after the call.")
    static void from5To0Held() {
        SingleTrackLine x = Scenes.on(Scenes::makeSixTrains);
        for (int number = 1; number <= 6; number++) {
            x.hold(number);
        }
        for (int number = 1; number <= 6; number++) {
            Due.is("held without train " + number, x.releaseTrain(number), 6 - number);
        }
    }

    @Sentence(under = "Promise 6", value = "Throws `NoSuchElementException` if there is no such train")
    static void releaseNoTrain() {
        Due.is("the held one", Scenes.busy().releaseTrain(3), 0);
        SingleTrackLine x = Scenes.on(Scenes::makeSixTrains);
        x.hold(1);
        x.hold(6);
        Due.is("the last of six", x.releaseTrain(6), 1);
        Due.is("the first of six", x.releaseTrain(1), 0);
        Refusal.ofNoTrain(SingleTrackLine::releaseTrain);
    }

    @Sentence(under = "Promise 6", value = "Throws `IllegalStateException` if the train is not held")
    static void releaseOneThatIsNotHeld() {
        Refusal.of("in a section", Boundaries.STATE, Scenes::makeBusy, x -> x.releaseTrain(1));
        Refusal.of("at a station", Boundaries.STATE, Scenes::makeBusy, x -> x.releaseTrain(2));
        Refusal.of("expected", Boundaries.STATE, Scenes::makeBusy, x -> x.releaseTrain(4));
        SingleTrackLine x = Scenes.busy();
        Due.is("held", x.releaseTrain(3), 0);
        Due.fails("not held any more", Boundaries.STATE, () -> x.releaseTrain(3));
        x.hold(4);
        Due.is("held and expected", x.releaseTrain(4), 0);
        x.hold(1);
        Due.is("held and in a section", x.releaseTrain(1), 0);
    }

    // ---- cancelTrain

    @Sentence(under = "Promise 7", value = {"Removes a train that is expected or at a station.",
        "Returns the number of trains after the call."})
    static void from5To0Trains() {
        SingleTrackLine x = Scenes.on(Scenes::makeSixTrains);
        int[] order = {1, 6, 3, 2, 5, 4};
        for (int cancelled = 1; cancelled <= 6; cancelled++) {
            int number = order[cancelled - 1];
            Due.is("trains without " + number, x.cancelTrain(number), 6 - cancelled);
            Due.is("it exists", x.exists(number), false);
        }
        SingleTrackLine y = Scenes.busy();
        Due.is("no track is free", y.freeTracks(0), 1);
        Due.is("one at a station", y.cancelTrain(3), 3);
        Due.is("its track is free", y.freeTracks(0), 2);
    }

    @Sentence(under = "Promise 7", value = "Throws `NoSuchElementException` if there is no such train")
    static void cancelNoTrain() {
        Due.is("the last", Scenes.busy().cancelTrain(4), 3);
        Due.is("the first of six", Scenes.on(Scenes::makeSixTrains).cancelTrain(1), 5);
        Due.is("the last of six", Scenes.on(Scenes::makeSixTrains).cancelTrain(6), 5);
        Refusal.ofNoTrain(SingleTrackLine::cancelTrain);
        SingleTrackLine x = Scenes.busy();
        x.cancelTrain(4);
        Due.fails("a second time", Boundaries.NO_ELEMENT, () -> x.cancelTrain(4));
    }

    @Sentence(under = "Promise 7", value = "Throws `IllegalStateException` if the train is in a section")
    static void cancelOneInASection() {
        Refusal.of("in a section", Boundaries.STATE, Scenes::makeBusy, x -> x.cancelTrain(1));
        String[] due = {"0", "0", "IllegalStateException", "IllegalStateException", "0", "IllegalStateException",
            "NoSuchElementException"};
        for (int minutes = 0; minutes < due.length; minutes++) {
            SingleTrackLine x = Scenes.line(1, 1, 1, 2, 1, 1);
            x.addTrain(0, 2, 1);
            if (minutes > 0) {
                x.advance(minutes);
            }
            Due.is("at time " + minutes, Scenes.answer(() -> x.cancelTrain(1)), due[minutes]);
        }
    }

    // ---- advance

    @Sentence(under = "Promise 8", value = "- `minutes`: the number of minutes, 1 to 60")
    static void minutes1To60() {
        SingleTrackLine x = new SingleTrackLine();
        x.advance(1);
        Due.is("1 minute", x.time(), 1);
        x.advance(60);
        Due.is("60 minutes", x.time(), 61);
        Due.fails("0 minutes", Boundaries.ARGUMENT, () -> x.advance(0));
        Due.fails("61 minutes", Boundaries.ARGUMENT, () -> x.advance(61));
        Due.is("the time stays", x.time(), 61);
    }

    @Sentence(under = "Promise 8", value = "Returns the number of trains that finish in these minutes.")
    static void from0To6Finish() {
        SingleTrackLine x = Scenes.line(2, 1, 1, 5);
        Due.is("without trains", x.advance(60), 0);
        for (int i = 0; i < 6; i++) {
            x.addTrain(0, 1, 1);
        }
        Due.is("a minute before the first", x.advance(6), 0);
        Due.is("the minute of the first", x.advance(1), 1);
        Due.is("a minute before the second", x.advance(4), 0);
        Due.is("all the others", x.advance(21), 5);
        SingleTrackLine y = Scenes.line(4, 1, 1, 5, 4, 5);
        for (int i = 0; i < 6; i++) {
            y.addTrain(i % 2 * 2, 1, 1);
        }
        Due.is("six in one call", y.advance(17), 6);
    }

    @Sentence(under = "Promise 8", value = "Throws `IllegalArgumentException` if the number of minutes is out of range")
    static void advanceOutOfRange() {
        Due.is("1 minute", Scenes.busy().advance(1), 0);
        Due.is("60 minutes", Scenes.busy().advance(60), 3);
        for (int minutes : Boundaries.outside(1, 60)) {
            Refusal.of("minutes " + minutes, Boundaries.ARGUMENT, Scenes::makeBusy, x -> x.advance(minutes));
            Refusal.of("an empty line, minutes " + minutes, Boundaries.ARGUMENT, Scenes::leaveEmpty, x -> x.advance(minutes));
        }
    }

    // ---- which trains there are

    @Sentence(under = "Promise 18", value = "Returns the number, 0 to 6.")
    static void from0To6Trains() {
        SingleTrackLine x = Scenes.line(1, 1, 1, 1);
        for (int count = 0; count < 6; count++) {
            Due.is("so many", x.trainCount(), count);
            x.addTrain(0, 1, 1);
        }
        Due.is("six", x.trainCount(), 6);
        Due.fails("a seventh", Boundaries.STATE, () -> x.addTrain(0, 1, 1));
        Due.is("six still", x.trainCount(), 6);
        x.advance(3);
        Due.is("one has finished", x.trainCount(), 5);
        x.advance(30);
        Due.is("all have finished", x.trainCount(), 0);
    }

    @Sentence(under = "Promise 19", value = "- `train`: any number")
    static void existsAnyNumber() {
        SingleTrackLine x = Scenes.busy();
        for (int number : Boundaries.outside(1, 4)) {
            Due.is("train " + number, x.exists(number), false);
        }
        for (int number = -1; number <= 7; number++) {
            Due.is("train " + number, x.exists(number), number >= 1 && number <= 4);
        }
        Due.is("0 of no train", new SingleTrackLine().exists(0), false);
        SingleTrackLine six = Scenes.on(Scenes::makeSixTrains);
        Due.is("the first of six", six.exists(1), true);
        Due.is("the last of six", six.exists(6), true);
        Due.is("the next number", six.exists(7), false);
        six.cancelTrain(6);
        Due.is("a cancelled one", six.exists(6), false);
    }

    // ---- no such train

    @Sentence(under = "Promise 20", value = "Throws `NoSuchElementException` if there is no such train")
    static void isNoTrainExpected() {
        Due.is("the first", Scenes.busy().isExpected(1), false);
        Due.is("the last", Scenes.busy().isExpected(4), true);
        Due.is("the last of six", Scenes.on(Scenes::makeSixTrains).isExpected(6), true);
        Refusal.ofNoTrain(SingleTrackLine::isExpected);
    }

    @Sentence(under = "Promise 21", value = "Throws `NoSuchElementException` if there is no such train")
    static void isNoTrainHeld() {
        Due.is("the first", Scenes.busy().isHeld(1), false);
        Due.is("the held one", Scenes.busy().isHeld(3), true);
        Due.is("the last", Scenes.busy().isHeld(4), false);
        Refusal.ofNoTrain(SingleTrackLine::isHeld);
    }

    @Sentence(under = "Promise 22", value = "Throws `NoSuchElementException` if there is no such train")
    static void stationOfNoTrain() {
        Due.is("at the last station", Scenes.busy().stationOf(2), 2);
        Due.is("at the first station", Scenes.busy().stationOf(3), 0);
        Refusal.ofNoTrain(SingleTrackLine::stationOf);
    }

    @Sentence(under = "Promise 22", value = "Throws `IllegalStateException` if the train is expected or in a section")
    static void stationOfOneElsewhere() {
        Refusal.of("in a section", Boundaries.STATE, Scenes::makeBusy, x -> x.stationOf(1));
        Refusal.of("expected", Boundaries.STATE, Scenes::makeBusy, x -> x.stationOf(4));
        everyMinute("station", x -> x.stationOf(1), "no", "0", "no", "no", "1", "no");
    }

    @Sentence(under = "Promise 23", value = "Throws `NoSuchElementException` if there is no such train")
    static void sectionOfNoTrain() {
        Due.is("in the first section", Scenes.busy().sectionOf(1), 0);
        Refusal.ofNoTrain(SingleTrackLine::sectionOf);
    }

    @Sentence(under = "Promise 23", value = "Throws `IllegalStateException` if the train is not in a section")
    static void sectionOfOneElsewhere() {
        Refusal.of("at a station", Boundaries.STATE, Scenes::makeBusy, x -> x.sectionOf(2));
        Refusal.of("expected", Boundaries.STATE, Scenes::makeBusy, x -> x.sectionOf(4));
        everyMinute("section", x -> x.sectionOf(1), "no", "no", "0", "0", "no", "1");
    }

    @Sentence(under = "Promise 24", value = "Returns the number of minutes, at least 1.")
    static void atLeast1MinuteRemains() {
        SingleTrackLine x = Scenes.line(1, 1, 1, 30);
        x.addTrain(0, 1, 1);
        x.advance(1);
        for (int left = 30; left >= 1; left--) {
            x.advance(1);
            Due.is("minutes left", x.remainingTime(1), left);
        }
        Due.is("then it finishes", x.advance(1), 1);
        SingleTrackLine y = Scenes.line(1, 1, 1, 1);
        y.addTrain(1, 0, 1);
        y.advance(2);
        Due.is("a section of one minute", y.remainingTime(1), 1);
    }

    @Sentence(under = "Promise 24", value = "Throws `NoSuchElementException` if there is no such train")
    static void remainingTimeOfNoTrain() {
        Due.is("one in a section", Scenes.busy().remainingTime(1), 8);
        Refusal.ofNoTrain(SingleTrackLine::remainingTime);
    }

    @Sentence(under = "Promise 24", value = "Throws `IllegalStateException` if the train is not in a section")
    static void remainingTimeOfOneElsewhere() {
        Refusal.of("at a station", Boundaries.STATE, Scenes::makeBusy, x -> x.remainingTime(2));
        Refusal.of("expected", Boundaries.STATE, Scenes::makeBusy, x -> x.remainingTime(4));
        everyMinute("minutes left", x -> x.remainingTime(1), "no", "no", "2", "1", "no", "1");
    }

    interface Query {
        Object on(SingleTrackLine x);
    }

    /** What is due in the minutes 0 to 5 of a train that is expected, comes, and goes through two sections. */
    private static void everyMinute(String what, Query query, String... due) {
        SingleTrackLine x = Scenes.line(1, 1, 1, 2, 1, 1);
        x.addTrain(0, 2, 1);
        for (int minute = 0; minute < due.length; minute++) {
            String wanted = due[minute].equals("no") ? "IllegalStateException" : due[minute];
            Due.is(what + " in minute " + minute, Scenes.answer(() -> query.on(x)), wanted);
            x.advance(1);
        }
        Due.is(what + " when it has finished", Scenes.answer(() -> query.on(x)), "NoSuchElementException");
    }

    @Sentence(under = "Promise 25", value = "Throws `NoSuchElementException` if there is no such train")
    static void waitedMinutesOfNoTrain() {
        Due.is("the first", Scenes.busy().waitedMinutes(1), 0);
        Due.is("one that waits", Scenes.busy().waitedMinutes(2), 3);
        Due.is("the last", Scenes.busy().waitedMinutes(4), 0);
        Refusal.ofNoTrain(SingleTrackLine::waitedMinutes);
    }

    @Sentence(under = "Promise 26", value = "Throws `NoSuchElementException` if there is no such train")
    static void plannedArrivalOfNoTrain() {
        Due.is("the first", Scenes.busy().plannedArrival(1), 19);
        Due.is("the last", Scenes.busy().plannedArrival(4), 60);
        Due.is("the last of six", Scenes.on(Scenes::makeSixTrains).plannedArrival(6), 6 + 5 + 2);
        Refusal.ofNoTrain(SingleTrackLine::plannedArrival);
    }
}
