import java.util.ArrayDeque;
import java.util.ArrayList;
import java.util.Comparator;
import java.util.List;
import java.util.Map;
import java.util.TreeMap;
import java.util.regex.Matcher;
import java.util.regex.Pattern;

/**
 * A second, slow reading of the document, with which RandomRunsTest compares the program. It counts free tracks and
 * tokens instead of finding them out, and answers every call by a text: the answer, or the exception's simple name.
 */
final class ReferenceLine {
    static final String INDEX = "IndexOutOfBoundsException";
    static final String ARGUMENT = "IllegalArgumentException";
    static final String STATE = "IllegalStateException";
    static final String NO_ELEMENT = "NoSuchElementException";
    static final String DIVISION = "ArithmeticException";
    static final String UNSUPPORTED = "UnsupportedOperationException";

    private static final Pattern PROGRAM = Pattern.compile("(?:COMMAND)(?:;(?:COMMAND))*".replace("COMMAND",
            "station [0-9] [0-9][0-9]?|tracks [0-9] [0-9]|train [0-9] [0-9] [0-9][0-9]?|hold [0-9][0-9]?"
                    + "|go [0-9][0-9]?|cancel [0-9][0-9]?|wait [0-9][0-9]?"));

    private static final class T implements Cloneable {
        int number, start, goal, departure, waited, remaining;
        /** Twice the index of the station, or of the section plus one; -1 if expected. */
        int at = -1;
        boolean held, fresh;

        T copy() {
            try {
                return (T) clone();
            } catch (CloneNotSupportedException e) {
                throw new AssertionError(e);
            }
        }
    }

    private static final class S {
        List<Integer> tracks = new ArrayList<>();
        List<Integer> free = new ArrayList<>();
        List<Integer> times = new ArrayList<>();
        List<Integer> tokens = new ArrayList<>();
        TreeMap<Integer, T> trains = new TreeMap<>();
        List<int[]> finished = new ArrayList<>();
        int next = 1, time = 0;

        S copy() {
            S s = new S();
            s.tracks.addAll(tracks);
            s.free.addAll(free);
            s.times.addAll(times);
            s.tokens.addAll(tokens);
            for (Map.Entry<Integer, T> entry : trains.entrySet()) {
                s.trains.put(entry.getKey(), entry.getValue().copy());
            }
            s.finished.addAll(finished);
            s.next = next;
            s.time = time;
            return s;
        }

        int plan(T t) {
            int sum = t.departure;
            for (int i = Math.min(t.start, t.goal); i < Math.max(t.start, t.goal); i++) {
                sum += times.get(i) + 1;
            }
            return sum;
        }

        void minute() {
            time++;
            for (T t : trains.values()) {
                t.fresh = false;
            }
            for (int section = 0; section < tokens.size(); section++) {
                if (tokens.get(section) != 0) {
                    move(trains.get(tokens.get(section)), section);
                }
            }
            for (T t : trains.values()) {
                if (t.at == -1 && time >= t.departure && free.get(t.start) > 0) {
                    free.set(t.start, free.get(t.start) - 1);
                    t.at = 2 * t.start;
                    t.fresh = true;
                }
            }
            List<T> order = new ArrayList<>(trains.values());
            order.sort(Comparator.comparingInt(t -> t.departure));
            for (T t : order) {
                if (t.at >= 0 && t.at % 2 == 0 && !t.fresh && !t.held) {
                    leave(t);
                }
            }
        }

        void move(T t, int section) {
            t.remaining--;
            if (t.remaining > 0) {
                return;
            }
            tokens.set(section, 0);
            int station = t.goal > t.start ? section + 1 : section;
            if (station == t.goal) {
                finished.add(new int[] {t.number, time - plan(t)});
                trains.remove(t.number);
            } else {
                t.at = 2 * station;
                t.fresh = true;
            }
        }

        void leave(T t) {
            int here = t.at / 2;
            int there = t.goal > t.start ? here + 1 : here - 1;
            int section = (here + there) / 2;
            if (tokens.get(section) != 0 || there != t.goal && free.get(there) == 0) {
                t.waited++;
                return;
            }
            tokens.set(section, t.number);
            free.set(here, free.get(here) + 1);
            if (there != t.goal) {
                free.set(there, free.get(there) - 1);
            }
            t.at = 2 * section + 1;
            t.remaining = times.get(section);
        }
    }

    private S s = new S();
    private S saved;
    private final ArrayDeque<S> undo = new ArrayDeque<>();
    private String text = "";
    private String output = "";
    private int errorPosition = -1;
    private int failedCommand = -1;

    int countStations() {
        return s.tracks.size();
    }

    List<Integer> listTrains() {
        return new ArrayList<>(s.trains.keySet());
    }

    private static boolean isIn(int value, int least, int most) {
        return value >= least && value <= most;
    }

    private boolean station(int station) {
        return isIn(station, 0, s.tracks.size() - 1);
    }

    private boolean section(int section) {
        return isIn(section, 0, s.times.size() - 1);
    }

    /** A change on the state as it is, without regard to undo. */
    private String apply(String call, int a, int b, int c) {
        T t = s.trains.get(a);
        switch (call) {
            case "addStation":
                if (!isIn(a, 1, 4) || !isIn(b, 1, 30)) {
                    return ARGUMENT;
                }
                if (s.tracks.size() == 7) {
                    return STATE;
                }
                if (!s.tracks.isEmpty()) {
                    s.times.add(b);
                    s.tokens.add(0);
                }
                s.tracks.add(a);
                s.free.add(a);
                return "" + (s.tracks.size() - 1);
            case "setTracks":
                if (!station(a)) {
                    return INDEX;
                }
                if (!isIn(b, 1, 4)) {
                    return ARGUMENT;
                }
                int old = s.tracks.get(a);
                if (s.free.get(a) + b - old < 0) {
                    return STATE;
                }
                s.free.set(a, s.free.get(a) + b - old);
                s.tracks.set(a, b);
                return "" + old;
            case "addTrain":
                if (!station(a) || !station(b)) {
                    return INDEX;
                }
                if (a == b || !isIn(c, 1, 99)) {
                    return ARGUMENT;
                }
                if (s.trains.size() == 6) {
                    return STATE;
                }
                T added = new T();
                added.number = s.next++;
                added.start = a;
                added.goal = b;
                added.departure = s.time + c;
                s.trains.put(added.number, added);
                return "" + added.number;
            case "hold":
            case "releaseTrain":
                if (t == null) {
                    return NO_ELEMENT;
                }
                if (t.held == call.equals("hold")) {
                    return STATE;
                }
                t.held = !t.held;
                return "" + s.trains.values().stream().filter(each -> each.held).count();
            case "cancelTrain":
                if (t == null) {
                    return NO_ELEMENT;
                }
                if (t.at % 2 == 1) {
                    return STATE;
                }
                if (t.at >= 0) {
                    s.free.set(t.at / 2, s.free.get(t.at / 2) + 1);
                }
                s.trains.remove(a);
                return "" + s.trains.size();
            case "advance":
                if (!isIn(a, 1, 60)) {
                    return ARGUMENT;
                }
                int before = s.finished.size();
                for (int i = 0; i < a; i++) {
                    s.minute();
                }
                return "" + (s.finished.size() - before);
            default:
                throw new AssertionError(call);
        }
    }

    private static boolean isRefusal(String answer) {
        return answer.endsWith("Exception");
    }

    private void remember(S before) {
        undo.addLast(before);
        if (undo.size() > 8) {
            undo.removeFirst();
        }
    }

    private String run() {
        String program = text;
        text = "";
        Matcher matcher = PROGRAM.matcher(program);
        if (!matcher.matches()) {
            errorPosition = 0;
            while (errorPosition < program.length() && goesOn(program.substring(0, errorPosition + 1))) {
                errorPosition++;
            }
            return ARGUMENT;
        }
        S before = s.copy();
        String[] commands = program.split(";");
        String[] words = {"station", "tracks", "train", "hold", "go", "cancel", "wait"};
        String[] calls = {"addStation", "setTracks", "addTrain", "hold", "releaseTrain", "cancelTrain", "advance"};
        for (int i = 0; i < commands.length; i++) {
            String[] parts = commands[i].split(" ");
            int[] given = new int[3];
            for (int j = 1; j < parts.length; j++) {
                given[j - 1] = Integer.parseInt(parts[j]);
            }
            String call = calls[List.of(words).indexOf(parts[0])];
            if (isRefusal(apply(call, given[0], given[1], given[2]))) {
                s = before;
                failedCommand = i;
                return UNSUPPORTED;
            }
        }
        remember(before);
        return "" + commands.length;
    }

    private static boolean goesOn(String prefix) {
        Matcher matcher = PROGRAM.matcher(prefix);
        return matcher.matches() || matcher.hitEnd();
    }

    /** The time of the arrival in a copy, or -1. */
    private static int arrival(S copy, int number) {
        for (int i = 0; i < 300; i++) {
            copy.minute();
            if (!copy.trains.containsKey(number)) {
                return copy.time;
            }
        }
        return -1;
    }

    private String alone(T t) {
        if (t.at != -1 || t.departure <= s.time) {
            return STATE;
        }
        S copy = new S();
        copy.time = s.time;
        copy.times.addAll(s.times);
        for (int i = 0; i < s.tracks.size(); i++) {
            copy.tracks.add(1);
            copy.free.add(1);
        }
        for (int i = 0; i < s.times.size(); i++) {
            copy.tokens.add(0);
        }
        T only = t.copy();
        only.held = false;
        copy.trains.put(t.number, only);
        return "" + arrival(copy, t.number);
    }

    private String rank(int rank) {
        List<T> order = new ArrayList<>(s.trains.values());
        order.sort(Comparator.<T>comparingInt(t -> -t.waited).thenComparingInt(t -> s.plan(t)));
        return isIn(rank, 0, order.size() - 1) ? "" + order.get(rank).number : NO_ELEMENT;
    }

    private String drawing() {
        StringBuilder drawn = new StringBuilder();
        for (int i = 0; i < s.tracks.size(); i++) {
            int here = i;
            List<String> numbers = new ArrayList<>();
            s.trains.values().stream().filter(t -> t.at == 2 * here).forEach(t -> numbers.add("" + t.number));
            drawn.append('[').append(String.join(",", numbers)).append(']');
            if (i < s.times.size()) {
                T t = s.trains.get(s.tokens.get(i));
                drawn.append(t == null ? "-" : (t.goal > t.start ? ">" : "<") + t.number);
            }
        }
        return drawn.toString();
    }

    private String ofLine(String call, int a, int b) {
        switch (call) {
            case "stationCount":
                return "" + s.tracks.size();
            case "tracks":
                return station(a) ? "" + s.tracks.get(a) : INDEX;
            case "freeTracks":
                return station(a) ? "" + s.free.get(a) : INDEX;
            case "trainsAt":
                return station(a) ? "" + s.trains.values().stream().filter(t -> t.at == 2 * a).count() : INDEX;
            case "runningTime":
                return section(a) ? "" + s.times.get(a) : INDEX;
            case "isTokenFree":
                return section(a) ? "" + (s.tokens.get(a) == 0) : INDEX;
            case "tokenHolder":
                return !section(a) ? INDEX : s.tokens.get(a) == 0 ? NO_ELEMENT : "" + s.tokens.get(a);
            case "distance":
            case "distanceByPositions":
                if (!station(a) || !station(b)) {
                    return INDEX;
                }
                return "" + s.times.subList(Math.min(a, b), Math.max(a, b)).stream().mapToInt(i -> i).sum();
            default:
                return null;
        }
    }

    private String ofTrain(String call, int a) {
        T t = s.trains.get(a);
        if (t == null) {
            return NO_ELEMENT;
        }
        switch (call) {
            case "isExpected":
                return "" + (t.at == -1);
            case "isHeld":
                return "" + t.held;
            case "stationOf":
                return t.at >= 0 && t.at % 2 == 0 ? "" + t.at / 2 : STATE;
            case "sectionOf":
                return t.at >= 0 && t.at % 2 == 1 ? "" + t.at / 2 : STATE;
            case "remainingTime":
                return t.at >= 0 && t.at % 2 == 1 ? "" + t.remaining : STATE;
            case "waitedMinutes":
                return "" + t.waited;
            case "plannedArrival":
                return "" + s.plan(t);
            case "arrivalAlone":
                return alone(t);
            case "predictedArrival":
                int arrival = arrival(s.copy(), a);
                return arrival == -1 ? NO_ELEMENT : "" + arrival;
            case "writeTrain":
                output = t.number + ":" + t.start + ">" + t.goal + "@" + t.departure + (t.held ? "!" : "")
                        + (t.waited == 0 ? "" : "+" + t.waited);
                return "" + output.length();
            default:
                throw new AssertionError(call);
        }
    }

    private String ofTotals(String call) {
        int count = s.finished.size();
        long sum = s.finished.stream().mapToLong(f -> f[1]).sum();
        switch (call) {
            case "time":
                return "" + s.time;
            case "finishedTrains":
                return "" + count;
            case "lastFinished":
                return count == 0 ? NO_ELEMENT : "" + s.finished.get(count - 1)[0];
            case "totalDelay":
                return "" + sum;
            case "greatestDelay":
                return count == 0 ? NO_ELEMENT : "" + s.finished.stream().mapToInt(f -> f[1]).max().getAsInt();
            case "meanDelay":
                return count == 0 ? DIVISION : "" + (double) sum / (double) count;
            case "punctualShare":
                long punctual = s.finished.stream().filter(f -> f[1] == 0).count();
                return count == 0 ? DIVISION : "" + (float) punctual / (float) count;
            default:
                return null;
        }
    }

    private String ofTheRest(String call, int a) {
        switch (call) {
            case "trainCount":
                return "" + s.trains.size();
            case "exists":
                return "" + s.trains.containsKey(a);
            case "stuckTrains":
                S copy = s.copy();
                for (int i = 0; i < 300; i++) {
                    copy.minute();
                }
                return "" + copy.trains.size();
            case "trainAtRank":
                return rank(a);
            case "isConsistent":
                return "true";
            case "append":
                if (text.length() == 60) {
                    return STATE;
                }
                text += (char) a;
                return "" + text.length();
            case "run":
                return run();
            case "errorPosition":
                return errorPosition < 0 ? NO_ELEMENT : "" + errorPosition;
            case "failedCommand":
                return failedCommand < 0 ? NO_ELEMENT : "" + failedCommand;
            case "writeLine":
                output = drawing();
                return "" + output.length();
            case "outputAt":
                return isIn(a, 0, output.length() - 1) ? "" + output.charAt(a) : INDEX;
            default:
                return null;
        }
    }

    private String ofUndo(String call) {
        switch (call) {
            case "undo":
                if (undo.isEmpty()) {
                    return STATE;
                }
                s = undo.removeLast();
                return "" + undo.size();
            case "save":
                saved = s.copy();
                return "";
            case "restore":
                if (saved == null) {
                    return STATE;
                }
                s = saved.copy();
                undo.clear();
                return "";
            default:
                return null;
        }
    }

    String answer(String call, int a, int b, int c) {
        switch (call) {
            case "addStation":
            case "setTracks":
            case "addTrain":
            case "hold":
            case "releaseTrain":
            case "cancelTrain":
            case "advance":
                S before = s.copy();
                String changed = apply(call, a, b, c);
                if (!isRefusal(changed)) {
                    remember(before);
                }
                return changed;
            default:
                break;
        }
        String answer = ofLine(call, a, b);
        answer = answer == null ? ofTotals(call) : answer;
        answer = answer == null ? ofTheRest(call, a) : answer;
        answer = answer == null ? ofUndo(call) : answer;
        return answer == null ? ofTrain(call, a) : answer;
    }
}
