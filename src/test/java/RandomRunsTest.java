import java.lang.reflect.InvocationTargetException;
import java.lang.reflect.Method;
import java.util.ArrayList;
import java.util.Arrays;
import java.util.Comparator;
import java.util.List;

/** All promises: many runs of up to 512 drawn calls, each answer compared with the one of ReferenceLine. */
public final class RandomRunsTest {
    private static final int RUNS = 1500;
    private static final int CALLS = 512;
    private static final String[] WORDS = {"station ", "tracks ", "train ", "hold ", "go ", "cancel ", "wait "};
    private static final String SIGNS = "0123456789 ;stacrinwohlegk\u00e9\u0661";

    private static final int[] FAR = {Integer.MIN_VALUE, Integer.MAX_VALUE, -1, 31, 60, 61, 99, 100};
    private static final String OF_STATIONS =
            " setTracks tracks freeTracks trainsAt runningTime isTokenFree tokenHolder distance distanceByPositions addTrain ";
    private static final String OF_TRAINS =
            " hold releaseTrain cancelTrain exists isExpected isHeld stationOf sectionOf remainingTime waitedMinutes "
                    + "plannedArrival arrivalAlone predictedArrival writeTrain ";

    private final List<Method> methods = new ArrayList<>();
    private long seed;

    public static void main(String[] args) throws IllegalAccessException {
        RandomRunsTest test = new RandomRunsTest();
        for (int run = 1; run <= RUNS; run++) {
            test.run(run);
        }
        Due.end();
    }

    private RandomRunsTest() {
        for (Method method : SingleTrackLine.class.getDeclaredMethods()) {
            if (java.lang.reflect.Modifier.isPublic(method.getModifiers())) {
                methods.add(method);
            }
        }
        methods.sort(Comparator.comparing(Method::getName));
    }

    /** The same numbers in every session. */
    private int draw(int bound) {
        seed = seed * 6364136223846793005L + 1442695040888963407L;
        return (int) ((seed >>> 33) % bound);
    }

    private void run(int number) throws IllegalAccessException {
        seed = number;
        SingleTrackLine x = new SingleTrackLine();
        ReferenceLine reference = new ReferenceLine();
        StringBuilder told = new StringBuilder();
        int patience = draw(30);
        int calls = 0;
        while (calls < CALLS) {
            for (String drawn : drawCalls(reference, patience)) {
                if (calls < CALLS && !compare(x, reference, drawn, told, number)) {
                    return;
                }
                calls++;
            }
        }
    }

    /** One call, or the calls that type a text and run it; each as the name and three numbers. */
    private List<String> drawCalls(ReferenceLine reference, int patience) {
        int kind = draw(100);
        if (kind < 3) {
            return typed(drawProgram(reference));
        }
        if (kind < 12) {
            return List.of("addTrain " + drawStation(reference) + " " + drawStation(reference) + " " + (1 + draw(12)));
        }
        if (kind < 15) {
            return List.of("addStation " + (1 + draw(3)) + " " + (1 + draw(9)) + " 0");
        }
        if (kind < 18 + patience) {
            return List.of("advance " + (1 + draw(4)) + " 0 0");
        }
        String name = methods.get(draw(methods.size())).getName();
        boolean isRare = "undo restore save append run cancelTrain".contains(name);
        if (isRare && draw(4) != 0) {
            return List.of("writeLine 0 0 0");
        }
        return List.of(name + " " + drawNumber(reference, name, 0) + " " + drawNumber(reference, name, 1) + " "
                + drawNumber(reference, name, 2));
    }

    private static List<String> typed(String text) {
        List<String> calls = new ArrayList<>();
        for (char sign : text.toCharArray()) {
            calls.add("append " + (int) sign + " 0 0");
        }
        calls.addAll(List.of("run 0 0 0", "errorPosition 0 0 0", "failedCommand 0 0 0", "writeLine 0 0 0"));
        return calls;
    }

    private int drawNumber(ReferenceLine reference, String name, int index) {
        if (draw(60) == 0) {
            return FAR[draw(FAR.length)];
        }
        if (name.equals("append")) {
            return SIGNS.charAt(draw(SIGNS.length()));
        }
        if (OF_TRAINS.contains(" " + name + " ")) {
            return drawTrain(reference);
        }
        if (OF_STATIONS.contains(" " + name + " ") && index < 2 && !(name.equals("setTracks") && index == 1)) {
            return drawStation(reference);
        }
        return draw(draw(3) == 0 ? 14 : 6);
    }

    private int drawStation(ReferenceLine reference) {
        return draw(Math.max(reference.countStations() + draw(8) / 7, 1));
    }

    private int drawTrain(ReferenceLine reference) {
        List<Integer> trains = reference.listTrains();
        return trains.isEmpty() || draw(8) == 0 ? draw(20) : trains.get(draw(trains.size()));
    }

    private String drawProgram(ReferenceLine reference) {
        StringBuilder text = new StringBuilder();
        int commands = 1 + draw(5);
        for (int i = 0; i < commands; i++) {
            String word = WORDS[draw(WORDS.length)];
            boolean isOfLine = word.startsWith("t") || word.startsWith("s");
            text.append(i == 0 ? "" : ";").append(word);
            text.append(isOfLine ? draw(10) == 0 ? draw(10) : drawStation(reference) : drawTrain(reference));
            if (isOfLine) {
                text.append(' ').append(word.startsWith("trac") ? 1 + draw(4) : drawStation(reference));
            }
            if (word.startsWith("trai")) {
                text.append(' ').append(1 + draw(30));
            }
        }
        if (draw(4) == 0) {
            text.insert(draw(text.length() + 1), SIGNS.charAt(draw(SIGNS.length())));
        }
        if (draw(5) == 0) {
            text.setLength(draw(text.length() + 1));
        }
        return text.toString();
    }

    private boolean compare(SingleTrackLine x, ReferenceLine reference, String drawn, StringBuilder told, int run)
            throws IllegalAccessException {
        String[] parts = drawn.split(" ");
        int[] given = new int[3];
        for (int i = 0; i < 3; i++) {
            given[i] = Integer.parseInt(parts[i + 1]);
        }
        String got = call(x, parts[0], given);
        if (parts[0].equals("append")) {
            given[0] = (char) given[0];
        }
        String due = reference.answer(parts[0], given[0], given[1], given[2]);
        told.append(drawn).append(" = ").append(got).append('\n');
        Due.is("run " + run + ": " + drawn, got, due);
        if (!got.equals(due)) {
            System.out.println(told);
        }
        return got.equals(due);
    }

    private String call(SingleTrackLine x, String name, int[] given) throws IllegalAccessException {
        for (Method method : methods) {
            if (method.getName().equals(name)) {
                Object[] arguments = new Object[method.getParameterCount()];
                for (int i = 0; i < arguments.length; i++) {
                    arguments[i] = method.getParameterTypes()[i] == char.class ? (Object) (char) given[i] : given[i];
                }
                try {
                    Object answer = method.invoke(x, arguments);
                    return answer == null ? "" : answer.toString();
                } catch (InvocationTargetException e) {
                    return e.getCause().getClass().getSimpleName();
                }
            }
        }
        throw new AssertionError(name + Arrays.toString(given));
    }
}
