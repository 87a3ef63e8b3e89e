import java.util.NoSuchElementException;

/** Promises 31 to 38: time, totals and the check of the invariants. */
public final class TotalsTest {
    private static final Class<NoSuchElementException> NONE = NoSuchElementException.class;
    private static final Class<ArithmeticException> DIVISION = ArithmeticException.class;

    public static void main(String[] args) {
        time();
        beforeAnyFinished();
        oneAfterTheOther();
        theGreatestFirst();
        twoInTheSameMinute();
        meansAreNotRounded();
        cancelledTrainsDoNotCount();
        isConsistent();
        Due.end();
    }

    private static void time() {
        SingleTrackLine x = new SingleTrackLine();
        Due.is("31: initially", x.time(), 0);
        x.advance(1);
        Due.is("31: 1", x.time(), 1);
        x.advance(60);
        Due.is("31: 61", x.time(), 61);
        x.addStation(1, 1);
        x.addStation(1, 1);
        x.addTrain(0, 1, 9);
        x.hold(1);
        x.cancelTrain(1);
        Due.is("31: only advance lets minutes pass", x.time(), 61);
        Scenes.run(x, "wait 4;wait 05");
        Due.is("31: and run", x.time(), 70);
    }

    private static void beforeAnyFinished() {
        SingleTrackLine x = Scenes.line(1, 1, 1, 5);
        x.addTrain(0, 1, 1);
        x.advance(6);
        Due.is("32: none", x.finishedTrains(), 0);
        Due.is("34: none", x.totalDelay(), 0);
        Due.fails("33: none", NONE, x::lastFinished);
        Due.fails("35: none", NONE, x::greatestDelay);
        Due.fails("36: none", DIVISION, x::meanDelay);
        Due.fails("37: none", DIVISION, x::punctualShare);
        x.advance(1);
        Due.is("32: one", x.finishedTrains(), 1);
        Due.is("33: one", x.lastFinished(), 1);
        Due.is("34: punctual", x.totalDelay(), 0);
        Due.is("35: punctual", x.greatestDelay(), 0);
        Due.isReal("36: punctual", x.meanDelay(), 0.0);
        Due.isReal("37: punctual", x.punctualShare(), 1.0f);
    }

    private static void oneAfterTheOther() {
        SingleTrackLine x = Scenes.line(4, 1, 1, 10);
        x.addTrain(0, 1, 2);
        x.addTrain(0, 1, 1);
        x.addTrain(0, 1, 50);
        x.addTrain(0, 1, 53);
        x.advance(30);
        Due.is("32: two", x.finishedTrains(), 2);
        Due.is("33: the later departure", x.lastFinished(), 1);
        Due.is("34: nine minutes", x.totalDelay(), 9);
        Due.is("35: nine minutes", x.greatestDelay(), 9);
        Due.isReal("36: nine minutes of two", x.meanDelay(), 4.5);
        Due.isReal("37: one of two", x.punctualShare(), 0.5f);
        x.advance(50);
        Due.is("32: four", x.finishedTrains(), 4);
        Due.is("33: the last one", x.lastFinished(), 4);
        Due.is("34: seven more", x.totalDelay(), 16);
        Due.is("35: the greatest one is not the last one", x.greatestDelay(), 9);
        Due.isReal("36: of four", x.meanDelay(), 4.0);
        Due.isReal("37: two of four", x.punctualShare(), 0.5f);
    }

    private static void theGreatestFirst() {
        SingleTrackLine x = Scenes.line(1, 1, 1, 3);
        x.addTrain(0, 1, 1);
        x.hold(1);
        x.advance(7);
        x.releaseTrain(1);
        x.addTrain(0, 1, 9);
        x.advance(4);
        Due.is("35: six minutes late", x.greatestDelay(), 6);
        x.advance(30);
        Due.is("33: the other one", x.lastFinished(), 2);
        Due.is("35: still six, the other one was punctual", x.greatestDelay(), 6);
        Due.is("34: still six", x.totalDelay(), 6);
    }

    private static void twoInTheSameMinute() {
        SingleTrackLine x = Scenes.line(1, 1, 1, 3, 1, 3);
        x.addTrain(2, 1, 1);
        x.addTrain(0, 1, 1);
        Due.is("33: both", x.advance(5), 2);
        Due.is("33: the one in the higher section, with the lower number", x.lastFinished(), 1);
        SingleTrackLine y = Scenes.line(1, 1, 1, 3, 1, 3);
        y.addTrain(0, 1, 1);
        y.addTrain(2, 1, 1);
        Due.is("33: both", y.advance(5), 2);
        Due.is("33: the one in the higher section, with the higher number", y.lastFinished(), 2);
    }

    private static void meansAreNotRounded() {
        SingleTrackLine x = Scenes.line(3, 1, 1, 5);
        for (int i = 0; i < 3; i++) {
            x.addTrain(0, 1, 1);
        }
        x.advance(20);
        Due.is("34: 0, 5 and 10", x.totalDelay(), 15);
        Due.isReal("36: of three", x.meanDelay(), 5.0);
        Due.isReal("37: one of three", x.punctualShare(), 1.0f / 3.0f);
        x.addTrain(0, 1, 1);
        x.addTrain(0, 1, 2);
        x.addTrain(0, 1, 40);
        x.advance(60);
        Due.is("34: 4 more", x.totalDelay(), 19);
        Due.isReal("36: of six", x.meanDelay(), 19.0 / 6.0);
        Due.isReal("37: three of six", x.punctualShare(), 0.5f);
        x.addTrain(0, 1, 1);
        x.advance(60);
        Due.isReal("36: of seven", x.meanDelay(), 19.0 / 7.0);
        Due.isReal("37: four of seven", x.punctualShare(), 4.0f / 7.0f);
    }

    private static void cancelledTrainsDoNotCount() {
        SingleTrackLine x = Scenes.busy();
        x.cancelTrain(2);
        x.cancelTrain(4);
        Due.is("32: one", x.finishedTrains(), 1);
        Due.is("33: one", x.lastFinished(), 5);
        Due.isReal("37: one of one", x.punctualShare(), 1.0f);
    }

    private static void isConsistent() {
        Due.is("38: a new line", new SingleTrackLine().isConsistent(), true);
        Due.is("38: one station", Scenes.line(1, 30).isConsistent(), true);
        SingleTrackLine x = Scenes.crowded();
        SingleTrackLine y = Scenes.line(1, 1, 2, 30, 1, 30, 3, 30, 1, 30, 2, 30, 1, 30);
        y.addTrain(0, 6, 99);
        y.addTrain(6, 0, 99);
        y.addTrain(0, 6, 1);
        y.hold(2);
        y.hold(3);
        for (int minute = 0; minute < 50; minute++) {
            x.advance(1);
            y.advance(3);
            Due.is("38: minute " + minute, x.isConsistent(), true);
            Due.is("38: on a long line, minute " + minute, y.isConsistent(), true);
        }
    }
}
