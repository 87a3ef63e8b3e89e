/** Promises 46 to 48: undo, save and restore. */
public final class UndoTest {
    private static final Class<IllegalStateException> STATE = IllegalStateException.class;

    public static void main(String[] args) {
        everyChangingCall();
        queriesAreNotUndone();
        anythingEqualIsUndone();
        atMostEight();
        undoThenChange();
        undoOfLongRuns();
        trainsGoOnAsIfNothingHadBeen();
        placesComeBack();
        totalsComeBack();
        whatUndoLeaves();
        saveAndRestore();
        saveIsNotUndone();
        restoreForgetsCalls();
        whatRestoreLeaves();
        Due.end();
    }

    private static void undone(String what, Scenes.Call call) {
        SingleTrackLine x = Scenes.crowded();
        SingleTrackLine twin = Scenes.crowded();
        call.on(x);
        Due.is("46: undo of " + what, x.undo(), 7);
        Due.is("46: state after undo of " + what, Scenes.state(x), Scenes.state(twin));
        Due.is("46: drawing after undo of " + what, Scenes.drawing(x), Scenes.drawing(twin));
        Due.is("46: the call before, too", x.undo(), 6);
        twin.undo();
        Due.is("46: state after a second undo, after " + what, Scenes.state(x), Scenes.state(twin));
    }

    private static void everyChangingCall() {
        undone("addStation", x -> x.addStation(1, 1));
        undone("setTracks", x -> x.setTracks(2, 4));
        undone("addTrain", x -> x.addTrain(0, 1, 1));
        undone("hold", x -> x.hold(1));
        undone("releaseTrain", x -> x.releaseTrain(5));
        undone("cancelTrain", x -> x.cancelTrain(4));
        undone("advance", x -> x.advance(60));
        undone("run", x -> Scenes.run(x, "wait 9;go 5;station 1 1"));
        SingleTrackLine x = Scenes.line(1, 1, 1, 1);
        x.addTrain(0, 1, 1);
        x.undo();
        Due.is("46: the number is free again", x.addTrain(0, 1, 1), 1);
    }

    private static void queriesAreNotUndone() {
        SingleTrackLine x = Scenes.line(1, 1, 1, 1);
        x.addTrain(0, 1, 9);
        Scenes.state(x);
        Scenes.drawing(x);
        Scenes.sign(x, 1);
        x.arrivalAlone(1);
        x.append('w');
        x.save();
        Due.is("46: three calls, one is undone", x.undo(), 2);
        Due.is("46: the train", x.trainCount(), 0);
        Due.is("46: a station", x.undo(), 1);
        Due.is("46: stationCount", x.stationCount(), 1);
        Due.is("46: the other one", x.undo(), 0);
        Due.is("46: stationCount", x.stationCount(), 0);
        Due.fails("46: no call", STATE, x::undo);
        Due.fails("46: no call still", STATE, x::undo);
    }

    private static void anythingEqualIsUndone() {
        SingleTrackLine x = Scenes.line(2, 1);
        x.setTracks(0, 2);
        x.setTracks(0, 2);
        Due.is("46: a call that changed nothing", x.undo(), 2);
        Due.is("46: another one", x.undo(), 1);
        Due.is("46: tracks", x.tracks(0), 2);
    }

    private static void atMostEight() {
        SingleTrackLine x = new SingleTrackLine();
        for (int minute = 0; minute < 20; minute++) {
            x.advance(1);
        }
        for (int left = 7; left >= 0; left--) {
            Due.is("46: left", x.undo(), left);
            Due.is("46: time", x.time(), 12 + left);
        }
        Due.fails("46: a ninth", STATE, x::undo);
        Due.is("46: time stays", x.time(), 12);
        x.advance(5);
        Due.is("46: one again", x.undo(), 0);
        Due.is("46: time", x.time(), 12);
        SingleTrackLine y = new SingleTrackLine();
        for (int minute = 0; minute < 8; minute++) {
            y.advance(1);
        }
        Due.fails("46: a refused call", IllegalArgumentException.class, () -> y.advance(0));
        Scenes.type(y, "wait 1;wait 0");
        Due.fails("46: a refused program", UnsupportedOperationException.class, y::run);
        for (int left = 7; left >= 0; left--) {
            Due.is("46: refused calls push none out", y.undo(), left);
        }
        Due.is("46: all eight", y.time(), 0);
    }

    private static void undoThenChange() {
        SingleTrackLine x = new SingleTrackLine();
        for (int round = 0; round < 30; round++) {
            x.advance(3);
            x.advance(5);
            Due.is("46: undo the 5, round " + round, x.undo(), Math.min(round + 1, 7));
            Due.is("46: time, round " + round, x.time(), 3 * round + 3);
        }
        for (int left = 6; left >= 0; left--) {
            Due.is("46: only what was not undone", x.undo(), left);
            Due.is("46: time", x.time(), 90 - 3 * (7 - left));
        }
    }

    private static void undoOfLongRuns() {
        SingleTrackLine x = Scenes.line(1, 1);
        Due.is("40: seven commands", Scenes.run(x, "wait 60;wait 60;wait 60;wait 60;wait 60;wait 60;wait 60"), 7);
        Due.is("46: run is one call", x.undo(), 1);
        Due.is("46: time", x.time(), 0);
    }

    private static void trainsGoOnAsIfNothingHadBeen() {
        SingleTrackLine x = Scenes.line(1, 1, 1, 3, 1, 3);
        x.addTrain(0, 2, 1);
        x.advance(1);
        x.advance(5);
        Due.is("46: came to station 1 in minute 5", Scenes.drawing(x), "[]-[]>1[]");
        x.undo();
        x.hold(1);
        x.advance(3);
        x.releaseTrain(1);
        x.advance(1);
        Due.is("46: leaves in minute 5", Scenes.drawing(x), "[]>1[]-[]");
    }

    private static void placesComeBack() {
        SingleTrackLine x = Scenes.line(1, 1, 1, 5, 1, 7);
        x.save();
        x.undo();
        x.undo();
        x.addStation(1, 9);
        x.addStation(1, 11);
        Due.is("46: other sections", x.distance(0, 2) * 100 + x.distanceByPositions(2, 0), 2020);
        x.restore();
        Due.is("48: the first ones, added up", x.distance(0, 2) * 10 + x.distance(0, 1), 125);
        Due.is("48: the first ones, by positions", x.distanceByPositions(0, 2) * 10 + x.distanceByPositions(0, 1), 125);
        Due.is("48: consistent", x.isConsistent(), true);
    }

    private static void totalsComeBack() {
        SingleTrackLine x = Scenes.line(1, 1, 1, 3);
        x.addTrain(0, 1, 1);
        x.advance(5);
        Due.isReal("37: punctual", x.punctualShare(), 1.0f);
        x.undo();
        Due.is("32: none has finished", x.finishedTrains(), 0);
        x.hold(1);
        x.advance(8);
        x.releaseTrain(1);
        x.save();
        x.advance(4);
        Due.isReal("37: now it was late", x.punctualShare(), 0.0f);
        Due.is("35: seven minutes", x.greatestDelay(), 7);
        Due.is("34: seven minutes", x.totalDelay(), 7);
        x.restore();
        Due.fails("33: none has finished", java.util.NoSuchElementException.class, x::lastFinished);
        Due.is("34: none", x.totalDelay(), 0);
        x.advance(9);
        Due.is("35: seven minutes again", x.greatestDelay(), 7);
        Due.is("34: seven minutes again", x.totalDelay(), 7);
        Due.is("32: one", x.finishedTrains(), 1);
    }

    private static void whatUndoLeaves() {
        SingleTrackLine x = Scenes.line(1, 1, 1, 1);
        Scenes.type(x, "w!");
        Due.fails("40: no program", IllegalArgumentException.class, x::run);
        x.advance(1);
        Scenes.type(x, "hold 1");
        Due.fails("40: fails", UnsupportedOperationException.class, x::run);
        x.writeLine();
        Scenes.type(x, "wait");
        x.advance(1);
        x.undo();
        x.undo();
        Due.is("46: the error position stays", x.errorPosition(), 1);
        Due.is("46: the failed command stays", x.failedCommand(), 0);
        Due.is("46: the output line stays", Scenes.output(x, 5), "[]-[]");
        Due.is("46: the text buffer stays", x.append(' '), 5);
        x.append('7');
        Due.is("46: and can be run", x.run(), 1);
        Due.is("46: time", x.time(), 7);
    }

    private static void saveAndRestore() {
        SingleTrackLine x = Scenes.crowded();
        SingleTrackLine twin = Scenes.crowded();
        x.save();
        x.advance(60);
        x.addStation(1, 1);
        x.restore();
        Due.is("48: state", Scenes.state(x), Scenes.state(twin));
        Due.is("48: drawing", Scenes.drawing(x), Scenes.drawing(twin));
        x.cancelTrain(4);
        x.restore();
        x.restore();
        Due.is("48: it stays saved", Scenes.drawing(x), Scenes.drawing(twin));
        x.advance(5);
        twin.advance(5);
        x.save();
        x.advance(7);
        x.restore();
        Due.is("47: replaces the saved state", Scenes.drawing(x), Scenes.drawing(twin));
        Due.is("47: its time", x.time(), twin.time());
        x.addTrain(0, 1, 9);
        twin.addTrain(0, 1, 9);
        Due.is("48: it goes on as it would have", Scenes.sign(x, 7), Scenes.sign(twin, 7));
        SingleTrackLine y = new SingleTrackLine();
        Due.fails("48: nothing saved", STATE, y::restore);
        y.save();
        y.advance(1);
        y.restore();
        Due.is("48: a new line was saved", y.time(), 0);
        Scenes.refused("48: restore()", Scenes::crowded, STATE, SingleTrackLine::restore);
    }

    private static void saveIsNotUndone() {
        SingleTrackLine x = new SingleTrackLine();
        x.advance(1);
        x.advance(2);
        x.save();
        Due.is("47: undo undoes the advance", x.undo(), 1);
        Due.is("47: time", x.time(), 1);
        x.restore();
        Due.is("47: the saved state stays after undo", x.time(), 3);
        SingleTrackLine y = new SingleTrackLine();
        y.save();
        Due.fails("47: save cannot be undone", STATE, y::undo);
    }

    private static void restoreForgetsCalls() {
        SingleTrackLine x = new SingleTrackLine();
        x.advance(1);
        x.save();
        x.advance(2);
        x.restore();
        Due.fails("48: no call can be undone", STATE, x::undo);
        Due.is("48: time", x.time(), 1);
        x.advance(4);
        x.advance(5);
        Due.is("48: later calls can", x.undo(), 1);
        Due.is("48: time", x.time(), 5);
        Due.is("48: later calls can", x.undo(), 0);
        Due.fails("48: but not restore", STATE, x::undo);
        Due.is("48: time", x.time(), 1);
        SingleTrackLine y = new SingleTrackLine();
        y.advance(1);
        Due.fails("48: a refused restore", STATE, y::restore);
        Due.is("48: leaves what can be undone", y.undo(), 0);
    }

    private static void whatRestoreLeaves() {
        SingleTrackLine x = Scenes.line(1, 1, 1, 1);
        x.save();
        Scenes.type(x, "w!");
        Due.fails("40: no program", IllegalArgumentException.class, x::run);
        Scenes.type(x, "hold 1");
        Due.fails("40: fails", UnsupportedOperationException.class, x::run);
        x.writeLine();
        Scenes.type(x, "wait");
        x.restore();
        Due.is("48: the error position stays", x.errorPosition(), 1);
        Due.is("48: the failed command stays", x.failedCommand(), 0);
        Due.is("48: the output line stays", Scenes.output(x, 5), "[]-[]");
        Due.is("48: the text buffer stays", x.append(' '), 5);
    }
}
