/**
 * Makes a call that is due to be refused, and compares the whole object with a twin on which it was never made: the
 * state, what undo and restore bring back, the text buffer, the output line, and what refused programs have stored.
 * Both objects stay under 512 calls.
 */
final class Refusal {
    private static final String TEXT = "wait 6";
    private static final int STORED_ERROR = 3;
    private static final int STORED_FAILURE = 1;

    private Refusal() {
    }

    static void of(String what, Class<? extends RuntimeException> kind, Scenes.Call scene, Scenes.Call call) {
        withText(TEXT, what, kind, scene, call);
    }

    /** Such a call while this text is in the buffer. */
    static void withText(String text, String what, Class<? extends RuntimeException> kind, Scenes.Call scene,
            Scenes.Call call) {
        SingleTrackLine x = prepared(scene);
        SingleTrackLine twin = prepared(scene);
        Scenes.type(x, text);
        Scenes.type(twin, text);
        Due.fails(what, kind, () -> call.on(x));
        Due.is(what + ", stored afterwards", Scenes.stored(x), Scenes.stored(twin));
        Due.is(what + ", the object afterwards", whole(x), whole(twin));
    }

    interface OfNumber {
        void on(SingleTrackLine x, int number);
    }

    /** The busy line has the stations 0 to 2, a new one has none. */
    static void ofNoStation(OfNumber call) {
        for (int station : Boundaries.outside(0, 2)) {
            of("station " + station, IndexOutOfBoundsException.class, Scenes::makeBusy, x -> call.on(x, station));
        }
        of("station 0 of none", IndexOutOfBoundsException.class, Scenes::leaveEmpty, x -> call.on(x, 0));
        of("station 7 of seven", IndexOutOfBoundsException.class, Scenes::makeFull, x -> call.on(x, 7));
    }

    /** The busy line has the sections 0 and 1, one with a single station or without any has none. */
    static void ofNoSection(OfNumber call) {
        for (int section : Boundaries.outside(0, 1)) {
            of("section " + section, IndexOutOfBoundsException.class, Scenes::makeBusy, x -> call.on(x, section));
        }
        of("section -1 of no station", IndexOutOfBoundsException.class, Scenes::leaveEmpty, x -> call.on(x, -1));
        of("section 0 of no station", IndexOutOfBoundsException.class, Scenes::leaveEmpty, x -> call.on(x, 0));
        of("section 0 of one station", IndexOutOfBoundsException.class, Scenes::makeOneStation, x -> call.on(x, 0));
        of("section 6 of seven stations", IndexOutOfBoundsException.class, Scenes::makeFull, x -> call.on(x, 6));
    }

    /** On the busy line the trains 1 to 4 exist, train 5 has finished, and train 6 was never added. */
    static void ofNoTrain(OfNumber call) {
        for (int train : Boundaries.outside(1, 4)) {
            of("train " + train, java.util.NoSuchElementException.class, Scenes::makeBusy, x -> call.on(x, train));
        }
        of("train 6", java.util.NoSuchElementException.class, Scenes::makeBusy, x -> call.on(x, 6));
        of("train 0 of none", java.util.NoSuchElementException.class, Scenes::leaveEmpty, x -> call.on(x, 0));
        of("train 1 of none", java.util.NoSuchElementException.class, Scenes::leaveEmpty, x -> call.on(x, 1));
        of("train 7 of six", java.util.NoSuchElementException.class, Scenes::makeSixTrains, x -> call.on(x, 7));
        of("a cancelled train", java.util.NoSuchElementException.class, Refusal::makeCancelled, x -> call.on(x, 4));
    }

    private static void makeCancelled(SingleTrackLine x) {
        Scenes.makeBusy(x);
        x.cancelTrain(4);
    }

    static void ofText(String text, int errorPosition, Scenes.Call scene) {
        ofProgram(text, IllegalArgumentException.class, scene, errorPosition + " " + STORED_FAILURE);
    }

    static void ofCommand(String text, int failedCommand, Scenes.Call scene) {
        ofProgram(text, UnsupportedOperationException.class, scene, STORED_ERROR + " " + failedCommand);
    }

    private static void ofProgram(String text, Class<? extends RuntimeException> kind, Scenes.Call scene, String stored) {
        SingleTrackLine x = prepared(scene);
        SingleTrackLine twin = prepared(scene);
        Scenes.type(x, text);
        String what = "run of \"" + text + "\"";
        Due.fails(what, kind, x::run);
        Due.is(what + ", stored afterwards", Scenes.stored(x), stored);
        Due.is(what + ", characters left in the buffer", x.append(TEXT.charAt(0)) - 1, 0);
        Scenes.type(x, TEXT.substring(1));
        Scenes.type(twin, TEXT);
        Due.is(what + ", the object afterwards", whole(x), whole(twin));
    }

    /** The scene on an object that has something stored, an empty line saved, and something in its output line. */
    private static SingleTrackLine prepared(Scenes.Call scene) {
        SingleTrackLine x = new SingleTrackLine();
        Scenes.type(x, "hol!");
        Due.fails("a text that is not a program", IllegalArgumentException.class, x::run);
        Scenes.type(x, "wait 1;go 1");
        Due.fails("a program that fails", UnsupportedOperationException.class, x::run);
        x.save();
        scene.on(x);
        x.writeLine();
        return x;
    }

    private static String whole(SingleTrackLine x) {
        StringBuilder text = new StringBuilder(output(x));
        text.append('\n').append(Scenes.state(x));
        String left;
        do {
            left = Scenes.answer(x::undo);
            text.append("\nundo ").append(left).append(": ").append(x.time()).append(' ').append(x.stationCount());
            text.append(' ').append(x.trainCount()).append(' ').append(x.finishedTrains());
        } while (left.length() == 1);
        text.append("\nrun ").append(Scenes.answer(x::run)).append(' ').append(x.time());
        text.append("\nrestore ").append(Scenes.answer(() -> {
            x.restore();
            return Scenes.state(x);
        }));
        return text.toString();
    }

    private static String output(SingleTrackLine x) {
        StringBuilder text = new StringBuilder();
        String sign = answerAt(x, 0);
        while (sign.length() == 1) {
            text.append(sign);
            sign = answerAt(x, text.length());
        }
        return text.append(' ').append(sign).toString();
    }

    private static String answerAt(SingleTrackLine x, int index) {
        return Scenes.answer(() -> x.outputAt(index));
    }
}
