/** Promise 8, and what the document's terms say of one minute and of tokens. */
public final class MinutesTest {
    public static void main(String[] args) {
        advance();
        advanceRefused();
        minuteByMinute();
        comingToTheStart();
        leavingByDeparture();
        leavingByNumber();
        freedThingsServeLaterTrains();
        freedThingsDoNotServeEarlierTrains();
        arrivalFreesBeforeComing();
        waitingForTracksAndTokens();
        Due.end();
    }

    private static void advance() {
        SingleTrackLine x = Scenes.line(2, 1, 1, 1, 2, 1);
        Due.is("8: without trains", x.advance(60), 0);
        Due.is("8: time", x.time(), 60);
        x.addTrain(0, 1, 1);
        x.addTrain(2, 1, 2);
        x.addTrain(0, 2, 50);
        Due.is("8: none finishes", x.advance(1), 0);
        Due.is("8: time", x.time(), 61);
        Due.is("8: none finishes yet", x.advance(1), 0);
        Due.is("8: one finishes", x.advance(1), 1);
        Due.is("8: the other one finishes", x.advance(1), 1);
        Due.is("8: the third one finishes", x.advance(60), 1);
        Due.is("8: time", x.time(), 124);
        x.addTrain(0, 1, 1);
        x.addTrain(2, 1, 1);
        Due.is("8: two finish", x.advance(3), 2);

        SingleTrackLine once = Scenes.crowded();
        SingleTrackLine often = Scenes.crowded();
        int finished = 0;
        for (int minute = 0; minute < 37; minute++) {
            finished += often.advance(1);
        }
        Due.is("8: 37 minutes at once", once.advance(37), finished);
        Due.is("8: 37 minutes one by one", Scenes.state(once), Scenes.state(often));
    }

    private static void advanceRefused() {
        int[] wrong = {0, 61, -1, Integer.MIN_VALUE, Integer.MAX_VALUE};
        for (int minutes : wrong) {
            Scenes.refused("8: advance(" + minutes + ")", Scenes::busy, IllegalArgumentException.class,
                    x -> x.advance(minutes));
        }
    }

    private static void minuteByMinute() {
        SingleTrackLine x = Scenes.line(1, 1, 1, 2, 1, 1);
        x.addTrain(0, 2, 2);
        String[] due = {"[]-[]-[]", "[1]-[]-[]", "[]>1[]-[]", "[]>1[]-[]", "[]-[1]-[]", "[]-[]>1[]", "[]-[]-[]"};
        for (int minute = 0; minute < due.length; minute++) {
            x.advance(1);
            Due.is("8: up, minute " + (minute + 1), Scenes.drawing(x), due[minute]);
        }
        Due.is("8: finished as planned", x.totalDelay(), 0);
        SingleTrackLine y = Scenes.line(1, 1, 1, 1, 1, 2);
        y.addTrain(2, 0, 1);
        String[] down = {"[]-[]-[1]", "[]-[]<1[]", "[]-[]<1[]", "[]-[1]-[]", "[]<1[]-[]", "[]-[]-[]"};
        for (int minute = 0; minute < down.length; minute++) {
            y.advance(1);
            Due.is("8: down, minute " + (minute + 1), Scenes.drawing(y), down[minute]);
        }
    }

    private static void comingToTheStart() {
        SingleTrackLine x = Scenes.line(1, 1, 1, 5);
        x.addTrain(0, 1, 3);
        x.addTrain(0, 1, 2);
        x.addTrain(0, 1, 3);
        x.advance(2);
        Due.is("8: the first departure", Scenes.drawing(x), "[2]-[]");
        x.advance(1);
        Due.is("8: its track becomes free in the last step", Scenes.drawing(x), "[]>2[]");
        Due.is("8: the others are late, but do not wait", x.waitedMinutes(1), 0);
        x.advance(1);
        Due.is("8: the lower number comes first", Scenes.drawing(x), "[1]>2[]");
        Due.is("8: the higher one does not", x.isExpected(3), true);

        SingleTrackLine y = Scenes.line(1, 1, 1, 5);
        y.addTrain(0, 1, 9);
        y.addTrain(0, 1, 3);
        y.addTrain(0, 1, 8);
        y.hold(2);
        y.advance(10);
        y.cancelTrain(2);
        y.advance(1);
        Due.is("8: by number and not by departure", Scenes.drawing(y), "[1]-[]");
    }

    private static void leavingByDeparture() {
        SingleTrackLine x = Scenes.line(2, 1, 1, 5);
        x.addTrain(0, 1, 3);
        x.addTrain(0, 1, 2);
        x.hold(1);
        x.hold(2);
        x.advance(5);
        x.releaseTrain(1);
        x.releaseTrain(2);
        x.advance(1);
        Due.is("8: the earlier departure leaves", Scenes.drawing(x), "[1]>2[]");
        Due.is("8: the later one waits", x.waitedMinutes(1), 1);
        Due.is("8: the one that left did not wait", x.waitedMinutes(2), 0);
    }

    private static void leavingByNumber() {
        SingleTrackLine x = Scenes.line(2, 1, 1, 5);
        x.addTrain(0, 1, 2);
        x.addTrain(0, 1, 2);
        x.advance(3);
        Due.is("8: the lower number leaves", Scenes.drawing(x), "[2]>1[]");
        SingleTrackLine y = Scenes.line(1, 1, 1, 5, 1, 5);
        y.addTrain(2, 0, 2);
        y.addTrain(0, 2, 2);
        y.advance(3);
        Due.is("8: the lower number reserves the only track", Scenes.drawing(y), "[2]-[]<1[]");
        Due.is("8: the other one waits", y.waitedMinutes(2), 1);
    }

    private static void freedThingsServeLaterTrains() {
        SingleTrackLine x = Scenes.line(1, 1, 1, 5, 1, 5);
        x.addTrain(1, 2, 1);
        x.addTrain(0, 2, 1);
        x.advance(2);
        Due.is("8: the track that train 1 leaves is reserved by train 2", Scenes.drawing(x), "[]>2[]>1[]");
    }

    private static void freedThingsDoNotServeEarlierTrains() {
        SingleTrackLine x = Scenes.line(1, 1, 1, 5, 1, 5);
        x.addTrain(0, 2, 1);
        x.addTrain(1, 2, 1);
        x.advance(2);
        Due.is("8: train 1 was visited before", Scenes.drawing(x), "[1]-[]>2[]");
        Due.is("8: and waited", x.waitedMinutes(1), 1);
        x.advance(1);
        Due.is("8: it leaves a minute later", Scenes.drawing(x), "[]>1[]>2[]");
    }

    private static void arrivalFreesBeforeComing() {
        SingleTrackLine x = Scenes.line(2, 1, 1, 3);
        x.addTrain(0, 1, 1);
        x.addTrain(0, 1, 1);
        x.advance(4);
        Due.is("8: the token is held", Scenes.drawing(x), "[2]>1[]");
        x.advance(1);
        Due.is("8: a token is returned before trains leave", Scenes.drawing(x), "[]>2[]");
        Due.is("8: waited while it was held", x.waitedMinutes(2), 3);

        SingleTrackLine y = Scenes.line(1, 1, 2, 4, 1, 1);
        y.addTrain(0, 1, 1);
        y.addTrain(1, 0, 1);
        y.addTrain(1, 2, 1);
        y.hold(3);
        y.advance(6);
        Due.is("8: the opposite train takes the token at once", Scenes.drawing(y), "[]<2[3]-[]");
        Due.is("8: train 1 finished", y.lastFinished(), 1);

        SingleTrackLine z = Scenes.line(1, 1, 1, 3, 1, 3);
        z.addTrain(0, 2, 1);
        z.addTrain(1, 2, 5);
        z.advance(5);
        Due.is("8: the reserved track became an occupied one, none is left to come to", Scenes.drawing(z), "[]-[1]-[]");
        Due.is("8: the other one is expected still", z.isExpected(2), true);
        z.advance(1);
        Due.is("8: it comes before the track is left", z.isExpected(2), true);
        z.advance(1);
        Due.is("8: it comes afterwards", Scenes.drawing(z), "[]-[2]>1[]");
    }

    private static void waitingForTracksAndTokens() {
        SingleTrackLine x = Scenes.line(1, 1, 1, 5, 1, 5);
        x.addTrain(1, 2, 1);
        x.addTrain(0, 2, 1);
        x.hold(1);
        x.advance(4);
        Due.is("8: no free track at the next station", Scenes.drawing(x), "[2]-[1]-[]");
        Due.is("8: waited for it", x.waitedMinutes(2), 3);
        x.setTracks(1, 2);
        x.advance(1);
        Due.is("8: with one more track it leaves", Scenes.drawing(x), "[]>2[1]-[]");

        SingleTrackLine y = Scenes.line(1, 1, 1, 5, 1, 5);
        y.addTrain(1, 2, 1);
        y.addTrain(0, 1, 1);
        y.hold(1);
        y.advance(2);
        Due.is("8: no track is needed at the destination", Scenes.drawing(y), "[]>2[1]-[]");
        Due.is("8: it finishes there", y.advance(5), 1);
        Due.is("8: and leaves the line at once", Scenes.drawing(y), "[]-[1]-[]");

        SingleTrackLine z = Scenes.line(1, 1, 1, 1);
        z.addTrain(0, 1, 1);
        z.addTrain(1, 0, 1);
        z.advance(2);
        Due.is("8: one token for both directions", Scenes.drawing(z), "[]>1[2]");
        z.advance(1);
        Due.is("8: the arriving train has returned it", Scenes.drawing(z), "[]<2[]");
    }
}
