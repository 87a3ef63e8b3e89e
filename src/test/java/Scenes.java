import java.util.function.Supplier;

/** Lines that several tests start from, and what can be read from a line. */
final class Scenes {
    private Scenes() {
    }

    /** Pairs of tracks and running time; the first running time has no effect. */
    static SingleTrackLine line(int... tracksAndTimes) {
        SingleTrackLine x = new SingleTrackLine();
        addStations(x, tracksAndTimes);
        return x;
    }

    static void addStations(SingleTrackLine x, int... tracksAndTimes) {
        for (int i = 0; i + 1 < tracksAndTimes.length; i += 2) {
            x.addStation(tracksAndTimes[i], tracksAndTimes[i + 1]);
        }
    }

    /**
     * At time 6: train 1 (0 to 2) is in section 0, train 2 (2 to 0) waits at station 2, train 3 (0 to 2, held) is at
     * station 0, train 4 (1 to 0) is expected, train 5 has finished. Ten changing calls have been made.
     */
    static SingleTrackLine busy() {
        return on(Scenes::makeBusy);
    }

    static void makeBusy(SingleTrackLine x) {
        addStations(x, 2, 1, 1, 9, 3, 4);
        x.addTrain(0, 2, 4);
        x.addTrain(2, 0, 3);
        x.addTrain(0, 2, 2);
        x.addTrain(1, 0, 50);
        x.addTrain(1, 2, 1);
        x.hold(3);
        x.advance(6);
    }

    /** A new object on which the scene was made. */
    static SingleTrackLine on(Call scene) {
        SingleTrackLine x = new SingleTrackLine();
        scene.on(x);
        return x;
    }

    static void leaveEmpty(SingleTrackLine x) {
    }

    static void makeOneStation(SingleTrackLine x) {
        addStations(x, 2, 1);
    }

    /** Seven stations, more than which there cannot be. */
    static void makeFull(SingleTrackLine x) {
        addStations(x, 1, 1, 2, 2, 3, 3, 4, 4, 1, 5, 2, 6, 3, 7);
    }

    /** Six expected trains, more than which there cannot be. */
    static void makeSixTrains(SingleTrackLine x) {
        addStations(x, 1, 1, 1, 2, 1, 3);
        for (int i = 0; i < 6; i++) {
            x.addTrain(i % 3, (i + 1) % 3, 1 + i);
        }
    }

    /** Six trains that have met each other on four stations for 14 minutes; two have finished. */
    static SingleTrackLine crowded() {
        SingleTrackLine x = line(2, 1, 2, 3, 2, 5, 3, 2);
        x.addTrain(0, 3, 1);
        x.addTrain(3, 0, 1);
        x.addTrain(1, 3, 2);
        x.addTrain(2, 1, 7);
        x.addTrain(3, 1, 12);
        x.addTrain(0, 1, 5);
        x.hold(5);
        x.advance(14);
        return x;
    }

    static void type(SingleTrackLine x, String text) {
        for (int i = 0; i < text.length(); i++) {
            x.append(text.charAt(i));
        }
    }

    static int run(SingleTrackLine x, String text) {
        type(x, text);
        return x.run();
    }

    static String output(SingleTrackLine x, int length) {
        StringBuilder text = new StringBuilder();
        for (int i = 0; i < length; i++) {
            text.append(x.outputAt(i));
        }
        return text.toString();
    }

    static String drawing(SingleTrackLine x) {
        return output(x, x.writeLine());
    }

    static String sign(SingleTrackLine x, int train) {
        return output(x, x.writeTrain(train));
    }

    /** The answer, or the simple name of the exception. */
    static String answer(Supplier<Object> call) {
        try {
            return String.valueOf(call.get());
        } catch (RuntimeException e) {
            return e.getClass().getSimpleName();
        }
    }

    /** What has been stored by refused calls of run. */
    static String stored(SingleTrackLine x) {
        return answer(x::errorPosition) + " " + answer(x::failedCommand);
    }

    /** What the queries answer, without the output line and what is stored; some 100 calls at most. */
    static String state(SingleTrackLine x) {
        StringBuilder text = new StringBuilder("time " + x.time());
        for (int i = 0; i < x.stationCount(); i++) {
            text.append(" | ").append(x.tracks(i)).append(' ').append(x.freeTracks(i)).append(' ').append(x.trainsAt(i));
            if (i > 0) {
                int section = i - 1;
                text.append(' ').append(x.runningTime(section)).append(' ').append(answer(() -> x.tokenHolder(section)));
            }
        }
        for (int rank = 0; rank < x.trainCount(); rank++) {
            int train = x.trainAtRank(rank);
            text.append(" # ").append(train).append(x.isExpected(train) ? " expected " : " ");
            text.append(x.isHeld(train) ? "held " : " ").append(x.waitedMinutes(train)).append(' ');
            text.append(x.plannedArrival(train)).append(' ');
            text.append(answer(() -> x.stationOf(train))).append(' ').append(answer(() -> x.remainingTime(train)));
            text.append(' ').append(answer(() -> x.predictedArrival(train)));
        }
        text.append(" ; ").append(x.finishedTrains()).append(' ').append(x.totalDelay());
        text.append(' ').append(answer(x::lastFinished)).append(' ').append(answer(x::greatestDelay));
        text.append(' ').append(x.finishedTrains() == 0 ? "-" : x.meanDelay() + " " + x.punctualShare());
        text.append(' ').append(x.isConsistent()).append(' ').append(x.stuckTrains());
        return text.toString();
    }

    interface Call {
        void on(SingleTrackLine x);
    }

    /** The call is refused on such a line, and the line is afterwards as one on which it was never made. */
    static void refused(String what, Supplier<SingleTrackLine> scene, Class<? extends RuntimeException> kind, Call call) {
        SingleTrackLine x = scene.get();
        SingleTrackLine twin = scene.get();
        Due.fails(what, kind, () -> call.on(x));
        Due.is(what + ", state after the refusal", state(x), state(twin));
        Due.is(what + ", stored after the refusal", stored(x), stored(twin));
        x.append('w');
        Due.is(what + ", text buffer after the refusal", x.append('a'), 2);
        Due.is(what + ", drawing after the refusal", drawing(x), drawing(twin));
        Due.is(what + ", undo after the refusal", answer(x::undo), answer(twin::undo));
        Due.is(what + ", state after the undo", state(x), state(twin));
    }
}
