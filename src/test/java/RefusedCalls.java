import java.lang.reflect.Method;
import java.lang.reflect.Modifier;
import java.util.ArrayList;
import java.util.List;
import java.util.TreeSet;

/** A refused call for each exception that a method of the face declares, but for those of run. */
final class RefusedCalls {
    static final class One {
        final String name;
        final Class<? extends RuntimeException> kind;
        final Scenes.Call scene;
        final Scenes.Call call;

        One(String name, Class<? extends RuntimeException> kind, Scenes.Call scene, Scenes.Call call) {
            this.name = name;
            this.kind = kind;
            this.scene = scene;
            this.call = call;
        }
    }

    private final List<One> calls = new ArrayList<>();

    RefusedCalls() {
        changes();
        queriesOfTheLine();
        queriesOfTrains();
        theRest();
    }

    List<One> list() {
        return calls;
    }

    private void add(String name, Class<? extends RuntimeException> kind, Scenes.Call call) {
        add(name, kind, Scenes::makeBusy, call);
    }

    private void add(String name, Class<? extends RuntimeException> kind, Scenes.Call scene, Scenes.Call call) {
        calls.add(new One(name, kind, scene, call));
    }

    private void changes() {
        add("addStation", Boundaries.ARGUMENT, x -> x.addStation(5, 30));
        add("addStation", Boundaries.STATE, Scenes::makeFull, x -> x.addStation(4, 30));
        add("setTracks", Boundaries.INDEX, x -> x.setTracks(3, 4));
        add("setTracks", Boundaries.ARGUMENT, x -> x.setTracks(2, 5));
        add("setTracks", Boundaries.STATE, RefusedCalls::twoAtTheStart, x -> x.setTracks(0, 1));
        add("addTrain", Boundaries.INDEX, x -> x.addTrain(0, 3, 99));
        add("addTrain", Boundaries.ARGUMENT, x -> x.addTrain(0, 2, 100));
        add("addTrain", Boundaries.STATE, Scenes::makeSixTrains, x -> x.addTrain(0, 2, 99));
        add("hold", Boundaries.NO_ELEMENT, x -> x.hold(5));
        add("hold", Boundaries.STATE, x -> x.hold(3));
        add("releaseTrain", Boundaries.NO_ELEMENT, x -> x.releaseTrain(5));
        add("releaseTrain", Boundaries.STATE, x -> x.releaseTrain(2));
        add("cancelTrain", Boundaries.NO_ELEMENT, x -> x.cancelTrain(5));
        add("cancelTrain", Boundaries.STATE, x -> x.cancelTrain(1));
        add("advance", Boundaries.ARGUMENT, x -> x.advance(61));
    }

    private static void twoAtTheStart(SingleTrackLine x) {
        Scenes.addStations(x, 2, 1, 1, 9);
        x.addTrain(0, 1, 1);
        x.addTrain(0, 1, 1);
        x.advance(1);
    }

    private void queriesOfTheLine() {
        add("tracks", Boundaries.INDEX, x -> x.tracks(3));
        add("freeTracks", Boundaries.INDEX, x -> x.freeTracks(3));
        add("trainsAt", Boundaries.INDEX, x -> x.trainsAt(3));
        add("runningTime", Boundaries.INDEX, x -> x.runningTime(2));
        add("isTokenFree", Boundaries.INDEX, x -> x.isTokenFree(2));
        add("tokenHolder", Boundaries.INDEX, x -> x.tokenHolder(2));
        add("tokenHolder", Boundaries.NO_ELEMENT, x -> x.tokenHolder(1));
        add("distance", Boundaries.INDEX, x -> x.distance(0, 3));
        add("distanceByPositions", Boundaries.INDEX, x -> x.distanceByPositions(0, 3));
    }

    private void queriesOfTrains() {
        add("isExpected", Boundaries.NO_ELEMENT, x -> x.isExpected(5));
        add("isHeld", Boundaries.NO_ELEMENT, x -> x.isHeld(5));
        add("stationOf", Boundaries.NO_ELEMENT, x -> x.stationOf(5));
        add("stationOf", Boundaries.STATE, x -> x.stationOf(1));
        add("sectionOf", Boundaries.NO_ELEMENT, x -> x.sectionOf(5));
        add("sectionOf", Boundaries.STATE, x -> x.sectionOf(2));
        add("remainingTime", Boundaries.NO_ELEMENT, x -> x.remainingTime(5));
        add("remainingTime", Boundaries.STATE, x -> x.remainingTime(2));
        add("waitedMinutes", Boundaries.NO_ELEMENT, x -> x.waitedMinutes(5));
        add("plannedArrival", Boundaries.NO_ELEMENT, x -> x.plannedArrival(5));
        add("arrivalAlone", Boundaries.NO_ELEMENT, x -> x.arrivalAlone(5));
        add("arrivalAlone", Boundaries.STATE, x -> x.arrivalAlone(1));
        add("predictedArrival", Boundaries.NO_ELEMENT, x -> x.predictedArrival(3));
        add("trainAtRank", Boundaries.NO_ELEMENT, x -> x.trainAtRank(4));
    }

    private void theRest() {
        add("lastFinished", Boundaries.NO_ELEMENT, Scenes::makeSixTrains, SingleTrackLine::lastFinished);
        add("greatestDelay", Boundaries.NO_ELEMENT, Scenes::makeSixTrains, SingleTrackLine::greatestDelay);
        add("meanDelay", Boundaries.DIVISION, Scenes::makeSixTrains, SingleTrackLine::meanDelay);
        add("punctualShare", Boundaries.DIVISION, Scenes::makeSixTrains, SingleTrackLine::punctualShare);
        add("writeTrain", Boundaries.NO_ELEMENT, x -> x.writeTrain(5));
        add("outputAt", Boundaries.INDEX, x -> x.outputAt(99));
    }

    /**
     * What the face declares and is not in the list. Refusal asks on objects that have something stored and saved, and
     * on a text buffer that is not full; so these are asked in the tests of their own promises.
     */
    String missing() {
        TreeSet<String> missing = new TreeSet<>();
        for (Method method : SingleTrackLine.class.getDeclaredMethods()) {
            if (Modifier.isPublic(method.getModifiers())) {
                for (Class<?> kind : method.getExceptionTypes()) {
                    missing.add(method.getName() + " " + kind.getSimpleName());
                }
            }
        }
        for (One one : calls) {
            missing.remove(one.name + " " + one.kind.getSimpleName());
        }
        missing.removeIf(each -> each.matches("(run|append|errorPosition|failedCommand|undo|restore) .*"));
        return String.join(", ", missing);
    }
}
