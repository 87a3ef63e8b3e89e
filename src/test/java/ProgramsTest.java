import java.util.NoSuchElementException;

/** Promises 39 to 42: the text buffer and programs. */
public final class ProgramsTest {
    public static void main(String[] args) {
        append();
        commandsCallTheMethods();
        numberOfCommands();
        errorPositions();
        afterAnError();
        failedCommands();
        aFailureUndoesTheWholeProgram();
        storedPositionsStay();
        Due.end();
    }

    private static void append() {
        SingleTrackLine x = Scenes.line(1, 1);
        Due.is("39: first", x.append('w'), 1);
        Due.is("39: second", x.append('a'), 2);
        for (int length = 3; length <= 60; length++) {
            Due.is("39: length", x.append((char) (length * 1000)), length);
        }
        Due.fails("39: 61", IllegalStateException.class, () -> x.append('a'));
        Due.fails("39: 61 again", IllegalStateException.class, () -> x.append((char) 0));
        Due.fails("40: run", IllegalArgumentException.class, x::run);
        Due.is("41: nothing is refused before the third character", x.errorPosition(), 2);
        Due.is("39: empty again", x.append('w'), 1);

        SingleTrackLine y = Scenes.line(1, 1);
        String sixty = "wait 1;wait 2;wait 3;wait 4;wait 5;wait 6;wait 7;wait 8;go 1";
        Due.is("39: the text has 60 characters", sixty.length(), 60);
        Scenes.type(y, sixty);
        Due.fails("39: 61 keep the text", IllegalStateException.class, () -> y.append('1'));
        Due.fails("40: the 60 are a program that fails", UnsupportedOperationException.class, y::run);
        Due.is("42: its last command", y.failedCommand(), 8);
    }

    private static void commandsCallTheMethods() {
        SingleTrackLine x = new SingleTrackLine();
        SingleTrackLine twin = new SingleTrackLine();
        Due.is("40: station", Scenes.run(x, "station 2 1;station 1 10;station 3 07;station 4 30"), 4);
        twin.addStation(2, 1);
        twin.addStation(1, 10);
        twin.addStation(3, 7);
        twin.addStation(4, 30);
        Due.is("40: after station", Scenes.state(x), Scenes.state(twin));
        Due.is("40: train", Scenes.run(x, "train 0 3 9;train 3 0 10;train 1 2 99;train 2 1 01"), 4);
        twin.addTrain(0, 3, 9);
        twin.addTrain(3, 0, 10);
        twin.addTrain(1, 2, 99);
        twin.addTrain(2, 1, 1);
        Due.is("40: after train", Scenes.state(x), Scenes.state(twin));
        Due.is("40: the departure of train 2", Scenes.sign(x, 2), "2:3>0@10");
        Due.is("40: tracks and hold", Scenes.run(x, "tracks 0 4;hold 1;hold 02;hold 3"), 4);
        twin.setTracks(0, 4);
        twin.hold(1);
        twin.hold(2);
        twin.hold(3);
        Due.is("40: after tracks and hold", Scenes.state(x), Scenes.state(twin));
        Due.is("40: go, cancel and wait", Scenes.run(x, "go 1;go 2;cancel 3;wait 9;wait 60"), 5);
        twin.releaseTrain(1);
        twin.releaseTrain(2);
        twin.cancelTrain(3);
        twin.advance(9);
        twin.advance(60);
        Due.is("40: after go, cancel and wait", Scenes.state(x), Scenes.state(twin));

        SingleTrackLine y = Scenes.line(1, 1, 1, 1);
        for (int number = 1; number <= 12; number++) {
            y.addTrain(0, 1, 9);
            y.cancelTrain(number);
        }
        y.addTrain(0, 1, 9);
        Due.is("40: a number of two digits", Scenes.run(y, "hold 13;go 13;cancel 13"), 3);
        Due.is("40: trainCount", y.trainCount(), 0);
    }

    private static void numberOfCommands() {
        SingleTrackLine x = Scenes.line(1, 1, 1, 1);
        Due.is("40: one", Scenes.run(x, "wait 1"), 1);
        Due.is("40: two", Scenes.run(x, "wait 1;wait 2"), 2);
        x.addTrain(0, 1, 9);
        Due.is("40: twelve", Scenes.run(x, "hold 1;go 1;hold 1;go 1;hold 1;go 1;hold 1;go 1;hold 1;go 1"), 10);
        x.addTrain(0, 1, 9);
        Due.is("40: the buffer is empty", x.append('x'), 1);
    }

    private static void errorAt(String text, int position) {
        SingleTrackLine x = Scenes.busy();
        SingleTrackLine twin = Scenes.busy();
        Scenes.type(x, text);
        Due.fails("40: run of \"" + text + "\"", IllegalArgumentException.class, x::run);
        Due.is("41: error position of \"" + text + "\"", x.errorPosition(), position);
        Due.fails("42: of \"" + text + "\"", NoSuchElementException.class, x::failedCommand);
        Due.is("40: nothing has changed by \"" + text + "\"", Scenes.state(x), Scenes.state(twin));
        Due.is("40: the buffer is empty after \"" + text + "\"", x.append('w'), 1);
        Due.is("46: undo after \"" + text + "\"", x.undo(), 7);
    }

    private static void errorPositions() {
        errorAt("", 0);
        String[] prefixes = {"s", "station", "station ", "station 1", "station 1 ", "t", "tr", "tra", "trac", "tracks ",
            "tracks 1", "tracks 1 ", "trai", "train 0 ", "train 0 1 ", "h", "hold", "hold ", "g", "go", "go ", "c",
            "cancel", "cancel ", "w", "wait ", "wait 1;", "wait 1;w", "wait 11;", "tracks 1 1;", "hold 1;station 1 9;t"};
        for (String prefix : prefixes) {
            errorAt(prefix, prefix.length());
        }
        errorAt("x", 0);
        errorAt(" wait 1", 0);
        errorAt(";", 0);
        errorAt("1", 0);
        errorAt("Wait 1", 0);
        errorAt("tx", 1);
        errorAt("trx", 2);
        errorAt("trax", 3);
        errorAt("tracx", 4);
        errorAt("traix", 4);
        errorAt("stations", 7);
        errorAt("statio 1 1", 6);
        errorAt("trains 0 1 1", 5);
        errorAt("wait1", 4);
        errorAt("wait  1", 5);
        errorAt("wait x", 5);
        errorAt("wait -1", 5);
        errorAt("wait ;", 5);
        errorAt("wait 1 ", 6);
        errorAt("wait 1x", 6);
        errorAt("wait 11x", 7);
        errorAt("wait 111", 7);
        errorAt("wait 011", 7);
        errorAt("wait 1;;", 7);
        errorAt("wait 1; wait 1", 7);
        errorAt("wait 1 ;wait 1", 6);
        errorAt("wait 1,wait 1", 6);
        errorAt("wait 1;wait 1;x", 14);
        errorAt("go 1 1", 4);
        errorAt("go x", 3);
        errorAt("hold 123", 7);
        errorAt("holx", 3);
        errorAt("cancel 1a", 8);
        errorAt("cancal 1", 4);
        errorAt("tracks 11 1", 8);
        errorAt("tracks 1 11", 10);
        errorAt("tracks x", 7);
        errorAt("tracks 1;", 8);
        errorAt("station 11 1", 9);
        errorAt("station 1 111", 12);
        errorAt("station 1 x", 10);
        errorAt("train 01 1 1", 7);
        errorAt("train 0 12", 9);
        errorAt("train 0 1 111", 12);
        errorAt("train 0 1;", 9);
        errorAt("train 0 1 x", 10);
        errorAt("wait " + (char) 0x661, 5);
        errorAt("wait 1" + (char) 0xFF11, 6);
        errorAt((char) 0 + "", 0);
        errorAt("wait /", 5);
        errorAt("wait :", 5);
        errorAt("wait 1/", 6);
        errorAt("wait 1:", 6);
        String long60 = "wait 1;wait 1;wait 1;wait 1;wait 1;wait 1;wait 1;wait 1;wait";
        Due.is("41: 60 characters", long60.length(), 60);
        errorAt(long60, 60);
    }

    private static void afterAnError() {
        SingleTrackLine x = Scenes.line(1, 1);
        Scenes.type(x, "wait 5;wait 1;x");
        Due.fails("40: no program", IllegalArgumentException.class, x::run);
        Due.is("40: no command was carried out", x.time(), 0);
        Due.is("40: the next text begins anew", Scenes.run(x, "wait 3"), 1);
        Due.is("31: time", x.time(), 3);
        Scenes.type(x, "hold 9;x");
        Due.fails("40: no program, and a command that would fail", IllegalArgumentException.class, x::run);
        Due.fails("42: none was stored", NoSuchElementException.class, x::failedCommand);
    }

    private static void failsAt(String text, int command) {
        SingleTrackLine x = Scenes.busy();
        SingleTrackLine twin = Scenes.busy();
        Scenes.type(x, text);
        Due.fails("40: run of \"" + text + "\"", UnsupportedOperationException.class, x::run);
        Due.is("42: failed command of \"" + text + "\"", x.failedCommand(), command);
        Due.fails("41: of \"" + text + "\"", NoSuchElementException.class, x::errorPosition);
        Due.is("40: the buffer is empty after \"" + text + "\"", x.append('w'), 1);
        Scenes.type(twin, text);
        Due.fails("40: the same on a twin", UnsupportedOperationException.class, twin::run);
        Due.is("40: drawing after \"" + text + "\"", Scenes.drawing(twin), Scenes.drawing(Scenes.busy()));
        Due.is("46: undo after \"" + text + "\"", x.undo(), 7);
        Due.is("31: the advance is undone after \"" + text + "\"", x.time(), 0);
    }

    private static void failedCommands() {
        failsAt("station 0 1", 0);
        failsAt("station 5 1", 0);
        failsAt("station 1 0", 0);
        failsAt("station 1 31", 0);
        failsAt("tracks 3 1", 0);
        failsAt("tracks 0 0", 0);
        failsAt("tracks 0 5", 0);
        failsAt("train 0 3 1", 0);
        failsAt("train 3 0 1", 0);
        failsAt("train 1 1 1", 0);
        failsAt("train 0 1 0", 0);
        failsAt("train 0 1 00", 0);
        failsAt("hold 3", 0);
        failsAt("hold 0", 0);
        failsAt("hold 5", 0);
        failsAt("go 1", 0);
        failsAt("go 99", 0);
        failsAt("cancel 1", 0);
        failsAt("cancel 6", 0);
        failsAt("wait 0", 0);
        failsAt("wait 61", 0);
        failsAt("wait 1;wait 61;wait 0", 1);
        failsAt("hold 1;hold 2;hold 4;hold 3", 3);
        failsAt("station 1 1;station 1 1;station 1 1;station 1 1;station 1 1", 4);
        failsAt("train 0 1 1;train 0 1 1;train 0 1 1", 2);
        failsAt("cancel 4;cancel 4", 1);
        failsAt("wait 60;go 4;wait 1", 1);
        failsAt("tracks 0 1;wait 5;go 3;wait 1;hold 9", 4);
    }

    private static void aFailureUndoesTheWholeProgram() {
        SingleTrackLine x = Scenes.crowded();
        SingleTrackLine twin = Scenes.crowded();
        Scenes.type(x, "station 4 9;tracks 3 4;train 0 4 9;cancel 5;wait 30;hold 5");
        Due.fails("40: fails in the end", UnsupportedOperationException.class, x::run);
        Scenes.type(twin, "hold 9;wait 1;wait 1;wait 1;wait 1;hold 9");
        Due.fails("40: fails at once", UnsupportedOperationException.class, twin::run);
        Due.is("42: failed command", x.failedCommand(), 5);
        Due.is("42: failed command of the twin", twin.failedCommand(), 0);
        Due.is("40: drawing", Scenes.drawing(x), Scenes.drawing(twin));
        Due.is("40: state", Scenes.state(x), Scenes.state(twin));
        Due.is("4: the number is not used up", x.addTrain(0, 1, 1), 7);
        for (int left = 7; left >= 0; left--) {
            Due.is("46: each call before can be undone", x.undo(), left);
            Due.is("46: drawing as on the twin", Scenes.drawing(x), Scenes.drawing(twin));
            Due.is("46: and on the twin", twin.undo(), left);
        }
        x.addStation(1, 1);
        Due.is("46: at most 8", x.undo(), 0);
    }

    private static void storedPositionsStay() {
        SingleTrackLine x = Scenes.line(1, 1);
        Due.fails("41: none", NoSuchElementException.class, x::errorPosition);
        Due.fails("42: none", NoSuchElementException.class, x::failedCommand);
        Scenes.type(x, "wait x");
        Due.fails("40: no program", IllegalArgumentException.class, x::run);
        Scenes.type(x, "wait 1;hold 1");
        Due.fails("40: a failure", UnsupportedOperationException.class, x::run);
        Due.is("41: stays after a failure", x.errorPosition(), 5);
        Due.is("42: stored", x.failedCommand(), 1);
        Scenes.run(x, "wait 1");
        Due.is("41: stays after a program", x.errorPosition(), 5);
        Due.is("42: stays after a program", x.failedCommand(), 1);
        Scenes.type(x, "w");
        Due.fails("40: no program", IllegalArgumentException.class, x::run);
        Due.is("41: stored last", x.errorPosition(), 1);
        Due.is("42: stays after an error", x.failedCommand(), 1);
        Scenes.type(x, "go 1");
        Due.fails("40: a failure", UnsupportedOperationException.class, x::run);
        Due.is("42: stored last", x.failedCommand(), 0);
        Due.is("41: a second question", x.errorPosition(), 1);
    }
}
