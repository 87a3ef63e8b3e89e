/** The boundary cases of undo: in "Terms", and of the promises 46 to 48. */
public final class UndoBoundariesTest {
    public static void main(String[] args) throws ReflectiveOperationException {
        Boundaries.ask(UndoBoundariesTest.class);
    }

    @Sentence(under = "Terms", value =
            "The changing methods are addStation, setTracks, addTrain, hold, releaseTrain, cancelTrain, advance and run.")
    static void theseEightAndNoOther() {
        SingleTrackLine x = new SingleTrackLine();
        x.addStation(2, 1);
        x.addStation(1, 1);
        x.setTracks(0, 1);
        x.addTrain(0, 1, 9);
        x.hold(1);
        x.releaseTrain(1);
        x.advance(1);
        Scenes.run(x, "wait 1");
        Scenes.state(x);
        x.writeLine();
        x.writeTrain(1);
        x.outputAt(0);
        x.append('w');
        x.save();
        x.arrivalAlone(1);
        for (int left = 7; left >= 0; left--) {
            Due.is("each of the eight calls is undone", x.undo(), left);
        }
        Due.is("nothing is left", x.stationCount() + x.trainCount() + x.time(), 0);
        Due.fails("no other call", Boundaries.STATE, x::undo);
        SingleTrackLine y = Scenes.line(1, 1, 1, 1);
        y.addTrain(0, 1, 9);
        y.cancelTrain(1);
        Due.is("cancelTrain is undone", y.undo(), 3);
        Due.is("the train is there", y.exists(1), true);
    }

    @Sentence(under = "Terms", value = "Each successful call of them can be undone, also if nothing is different after it; "
            + "at most the 8 most recent ones, the most recent one first.")
    static void atMost8() {
        for (int calls = 1; calls <= 20; calls++) {
            SingleTrackLine x = new SingleTrackLine();
            for (int call = 1; call <= calls; call++) {
                x.advance(call);
            }
            int undone = Math.min(calls, 8);
            for (int left = undone - 1; left >= 0; left--) {
                Due.is("so many are left of " + calls, x.undo(), left);
                int kept = calls - undone + left;
                Due.is("the time without the most recent ones", x.time(), kept * (kept + 1) / 2);
            }
            Due.fails("no more of " + calls, Boundaries.STATE, x::undo);
        }
        SingleTrackLine same = Scenes.line(1, 1);
        for (int call = 0; call < 8; call++) {
            same.setTracks(0, 1);
        }
        for (int left = 7; left >= 0; left--) {
            Due.is("calls after which nothing is different", same.undo(), left);
        }
        Due.is("the station was added before them", same.stationCount(), 1);
        Due.fails("it stays", Boundaries.STATE, same::undo);
        SingleTrackLine program = new SingleTrackLine();
        Due.is("a program of eight commands", Scenes.run(program, "wait 1;wait 1;wait 1;wait 1;wait 1;wait 1;wait 1;wait 1"), 8);
        Due.is("is one call", program.undo(), 0);
        Due.is("with all its commands", program.time(), 0);
    }

    @Sentence(under = "Terms", value = "Undo, save and restore concern the whole state except the text buffer, the error "
            + "position, the failed command and the output line.")
    static void allButTheseFour() {
        SingleTrackLine x = Scenes.busy();
        x.save();
        x.advance(60);
        Scenes.type(x, "x");
        Due.fails("an error", Boundaries.ARGUMENT, x::run);
        Scenes.type(x, "wait 1;wait 0");
        Due.fails("a failure", Boundaries.UNSUPPORTED, x::run);
        Scenes.type(x, "wait 1;wait 7");
        int length = x.writeLine();
        String drawn = Scenes.output(x, length);
        x.undo();
        Due.is("undone", Scenes.state(x), Scenes.state(Scenes.busy()));
        Due.is("the error position after undo", x.errorPosition(), 0);
        Due.is("the failed command after undo", x.failedCommand(), 1);
        Due.is("the output line after undo", Scenes.output(x, length), drawn);
        x.restore();
        Due.is("restored", Scenes.state(x), Scenes.state(Scenes.busy()));
        Due.is("the error position after restore", x.errorPosition(), 0);
        Due.is("the failed command after restore", x.failedCommand(), 1);
        Due.is("the output line after restore", Scenes.output(x, length), drawn);
        Due.is("the text buffer after both", x.run(), 2);
        Due.is("is run", x.time(), 6 + 8);
    }

    @Sentence(under = "Promise 46", value = "Undoes the most recent changing call that has not been undone.")
    static void notTwiceTheSame() {
        SingleTrackLine x = new SingleTrackLine();
        x.advance(1);
        x.advance(2);
        x.advance(4);
        x.undo();
        Due.is("the third one", x.time(), 3);
        x.undo();
        Due.is("the second one", x.time(), 1);
        x.advance(8);
        Due.is("a new one", x.time(), 9);
        x.undo();
        Due.is("the new one", x.time(), 1);
        Due.is("the first one", x.undo(), 0);
        Due.is("nothing is left", x.time(), 0);
        for (int round = 1; round <= 40; round++) {
            x.advance(60);
            x.advance(1);
            x.undo();
            Due.is("round " + round, x.time(), 60 * round);
        }
        for (int left = 6; left >= 0; left--) {
            Due.is("the 40 that were not undone, as far as they can be", x.undo(), left);
            Due.is("the time", x.time(), 60 * (33 + left));
        }
        Due.fails("the calls before them cannot", Boundaries.STATE, x::undo);
    }

    @Sentence(under = "Promise 46", value = "Returns the number of calls that can still be undone.")
    static void from7To0() {
        SingleTrackLine x = new SingleTrackLine();
        x.advance(1);
        Due.is("of one", x.undo(), 0);
        for (int call = 0; call < 7; call++) {
            x.advance(1);
        }
        Due.is("of seven", x.undo(), 6);
        x.advance(1);
        x.advance(1);
        Due.is("of eight", x.undo(), 7);
        x.advance(1);
        x.advance(1);
        Due.is("of nine", x.undo(), 7);
        for (int call = 0; call < 200; call++) {
            x.advance(1);
        }
        Due.is("of very many", x.undo(), 7);
    }

    @Sentence(under = "Promise 46", value = "Throws `IllegalStateException` if no call can be undone")
    static void noCall() {
        SingleTrackLine x = new SingleTrackLine();
        Due.fails("a new object", Boundaries.STATE, x::undo);
        Due.fails("a refused call", Boundaries.ARGUMENT, () -> x.advance(61));
        Due.fails("after a refused call", Boundaries.STATE, x::undo);
        Scenes.type(x, "wait 0");
        Due.fails("a refused program", Boundaries.UNSUPPORTED, x::run);
        Due.fails("after a refused program", Boundaries.STATE, x::undo);
        x.advance(1);
        Due.is("after a call", x.undo(), 0);
        Due.fails("after it was undone", Boundaries.STATE, x::undo);
        Due.is("nothing has changed", x.time(), 0);
        Refusal.of("an empty line", Boundaries.STATE, Scenes::leaveEmpty, SingleTrackLine::undo);
        Refusal.of("all eight of ten were undone", Boundaries.STATE, UndoBoundariesTest::makeUndone, SingleTrackLine::undo);
        Refusal.of("after restore", Boundaries.STATE, UndoBoundariesTest::makeRestored, SingleTrackLine::undo);
    }

    private static void makeUndone(SingleTrackLine x) {
        Scenes.makeBusy(x);
        for (int call = 0; call < 8; call++) {
            x.undo();
        }
    }

    private static void makeRestored(SingleTrackLine x) {
        Scenes.makeBusy(x);
        x.save();
        x.advance(1);
        x.restore();
    }

    @Sentence(under = "Promise 47", value = "Saves the state, replacing a previously saved state.")
    static void onlyTheLastIsSaved() {
        SingleTrackLine x = new SingleTrackLine();
        x.save();
        x.advance(1);
        x.save();
        x.advance(1);
        x.restore();
        Due.is("the second one", x.time(), 1);
        x.save();
        x.save();
        x.advance(1);
        x.restore();
        Due.is("saved again without a change", x.time(), 1);
    }

    @Sentence(under = "Promise 47", value = "Saving is not a changing call.")
    static void saveIsNotCounted() {
        SingleTrackLine x = new SingleTrackLine();
        x.save();
        Due.fails("only save", Boundaries.STATE, x::undo);
        for (int call = 0; call < 8; call++) {
            x.advance(1);
            x.save();
        }
        x.save();
        for (int left = 7; left >= 0; left--) {
            Due.is("save pushes no call out", x.undo(), left);
        }
        Due.is("all eight are undone", x.time(), 0);
        x.restore();
        Due.is("what was saved stays saved", x.time(), 8);
    }

    @Sentence(under = "Promise 48", value = "Restores the saved state, which stays saved.")
    static void againAndAgain() {
        SingleTrackLine x = Scenes.busy();
        x.save();
        String due = Scenes.drawing(x);
        for (int time = 1; time <= 20; time++) {
            x.advance(time);
            x.cancelTrain(4);
            x.restore();
            Due.is("restored so many times: " + time, Scenes.drawing(x), due);
            Due.is("its time", x.time(), 6);
        }
        x.restore();
        Due.is("without a change between", Scenes.state(x), Scenes.state(Scenes.busy()));
    }

    @Sentence(under = "Promise 48", value = "Afterwards no call can be undone.")
    static void noneAfterRestore() {
        SingleTrackLine x = Scenes.busy();
        x.save();
        x.restore();
        Due.fails("right after it", Boundaries.STATE, x::undo);
        for (int call = 1; call <= 9; call++) {
            x.advance(1);
        }
        for (int left = 7; left >= 0; left--) {
            Due.is("later calls can be", x.undo(), left);
        }
        Due.fails("eight of nine", Boundaries.STATE, x::undo);
        Due.is("their time", x.time(), 7);
        x.restore();
        x.advance(1);
        Due.is("one call after it", x.undo(), 0);
        Due.is("back to what was restored", Scenes.state(x), Scenes.state(Scenes.busy()));
        Due.fails("none before it", Boundaries.STATE, x::undo);
    }

    @Sentence(under = "Promise 48", value = "Throws `IllegalStateException` if no state was saved")
    static void nothingSaved() {
        SingleTrackLine x = Scenes.busy();
        Due.fails("nothing saved", Boundaries.STATE, x::restore);
        Due.is("nothing has changed", Scenes.state(x), Scenes.state(Scenes.busy()));
        Due.is("what can be undone", x.undo(), 7);
        Due.fails("nothing saved still", Boundaries.STATE, x::restore);
        x.save();
        x.advance(1);
        x.restore();
        Due.is("something saved", x.time(), 0);
        SingleTrackLine y = new SingleTrackLine();
        Due.fails("a new object", Boundaries.STATE, y::restore);
        y.save();
        y.restore();
        Due.is("an empty line was saved", y.stationCount(), 0);
    }
}
