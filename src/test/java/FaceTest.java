import java.io.IOException;
import java.lang.reflect.Constructor;
import java.lang.reflect.Field;
import java.lang.reflect.Method;
import java.lang.reflect.Modifier;
import java.nio.file.Files;
import java.nio.file.Path;
import java.util.TreeSet;
import java.util.regex.Matcher;
import java.util.regex.Pattern;

/** The face that the document prints, and some of the rules for the program's text. */
public final class FaceTest {
    private static final String[] FACE = {
        "int addStation(int,int) IllegalArgumentException,IllegalStateException",
        "int setTracks(int,int) IndexOutOfBoundsException,IllegalArgumentException,IllegalStateException",
        "int addTrain(int,int,int) IndexOutOfBoundsException,IllegalArgumentException,IllegalStateException",
        "int hold(int) NoSuchElementException,IllegalStateException",
        "int releaseTrain(int) NoSuchElementException,IllegalStateException",
        "int cancelTrain(int) NoSuchElementException,IllegalStateException",
        "int advance(int) IllegalArgumentException",
        "int stationCount() ",
        "int tracks(int) IndexOutOfBoundsException",
        "int freeTracks(int) IndexOutOfBoundsException",
        "int trainsAt(int) IndexOutOfBoundsException",
        "int runningTime(int) IndexOutOfBoundsException",
        "boolean isTokenFree(int) IndexOutOfBoundsException",
        "int tokenHolder(int) IndexOutOfBoundsException,NoSuchElementException",
        "int distance(int,int) IndexOutOfBoundsException",
        "int distanceByPositions(int,int) IndexOutOfBoundsException",
        "int trainCount() ",
        "boolean exists(int) ",
        "boolean isExpected(int) NoSuchElementException",
        "boolean isHeld(int) NoSuchElementException",
        "int stationOf(int) NoSuchElementException,IllegalStateException",
        "int sectionOf(int) NoSuchElementException,IllegalStateException",
        "int remainingTime(int) NoSuchElementException,IllegalStateException",
        "int waitedMinutes(int) NoSuchElementException",
        "int plannedArrival(int) NoSuchElementException",
        "int arrivalAlone(int) NoSuchElementException,IllegalStateException",
        "int predictedArrival(int) NoSuchElementException",
        "int stuckTrains() ",
        "int trainAtRank(int) NoSuchElementException",
        "int time() ",
        "int finishedTrains() ",
        "int lastFinished() NoSuchElementException",
        "long totalDelay() ",
        "int greatestDelay() NoSuchElementException",
        "double meanDelay() ArithmeticException",
        "float punctualShare() ArithmeticException",
        "boolean isConsistent() ",
        "int append(char) IllegalStateException",
        "int run() IllegalArgumentException,UnsupportedOperationException",
        "int errorPosition() NoSuchElementException",
        "int failedCommand() NoSuchElementException",
        "int writeLine() ",
        "int writeTrain(int) NoSuchElementException",
        "char outputAt(int) IndexOutOfBoundsException",
        "int undo() IllegalStateException",
        "void save() ",
        "void restore() IllegalStateException",
    };

    public static void main(String[] args) throws IOException {
        methods();
        othersArePrivate();
        text();
        Due.end();
    }

    private static String list(Class<?>[] types) {
        StringBuilder text = new StringBuilder();
        for (Class<?> type : types) {
            text.append(text.length() == 0 ? "" : ",").append(type.getSimpleName());
        }
        return text.toString();
    }

    private static void methods() {
        TreeSet<String> due = new TreeSet<>(java.util.List.of(FACE));
        TreeSet<String> got = new TreeSet<>();
        for (Method method : SingleTrackLine.class.getDeclaredMethods()) {
            if (Modifier.isPublic(method.getModifiers()) && !Modifier.isStatic(method.getModifiers())) {
                got.add(method.getReturnType().getSimpleName() + " " + method.getName() + "("
                        + list(method.getParameterTypes()) + ") " + list(method.getExceptionTypes()));
            }
        }
        for (String method : due) {
            Due.is("face: has " + method, got.contains(method), true);
        }
        for (String method : got) {
            Due.is("face: the document prints " + method, due.contains(method), true);
        }
        Due.is("face: the class is public and final", SingleTrackLine.class.getModifiers(),
                Modifier.PUBLIC | Modifier.FINAL);
        Constructor<?>[] constructors = SingleTrackLine.class.getConstructors();
        Due.is("face: one public constructor", constructors.length, 1);
        Due.is("face: it takes nothing", constructors[0].getParameterCount(), 0);
    }

    private static void othersArePrivate() {
        TreeSet<String> open = new TreeSet<>();
        for (Method method : SingleTrackLine.class.getDeclaredMethods()) {
            if (Modifier.isPublic(method.getModifiers())) {
                open.add(method.getName());
            }
        }
        for (Method method : SingleTrackLine.class.getDeclaredMethods()) {
            int modifiers = method.getModifiers();
            boolean isFine = Modifier.isPublic(modifiers) || Modifier.isPrivate(modifiers) || method.isSynthetic();
            Due.is("rule 1: private or public is " + method.getName(), isFine, true);
        }
        for (Field field : SingleTrackLine.class.getDeclaredFields()) {
            boolean isFine = Modifier.isPrivate(field.getModifiers()) || field.isSynthetic();
            Due.is("rule 1: private is " + field.getName(), isFine, true);
        }
        for (Class<?> inner : SingleTrackLine.class.getDeclaredClasses()) {
            Due.is("rule 1: private is " + inner.getName(), Modifier.isPrivate(inner.getModifiers()), true);
            for (Method method : inner.getDeclaredMethods()) {
                Due.is("rule 1: no name of the face is " + inner.getSimpleName() + "." + method.getName(),
                        open.contains(method.getName()), false);
            }
        }
    }

    private static void text() throws IOException {
        String text = Files.readString(Path.of("src/main/java/SingleTrackLine.java"));
        String[] banned = {"->", "::", "\\btry\\b", "\\bcatch\\b", "\\bfinally\\b", "\\bassert\\b", "\\bsynchronized\\b",
            "Exact\\b", "\\bSystem\\.(?!arraycopy\\b)", "\\bpackage\\b", "\\bthread\\b", "\\bRandom\\b", "\\bpublic static\\b",
            "\"\\s*\\+", "\\+\\s*\"", "\\bhashCode\\b", "\\btoString\\b", "[^\\x00-\\x7f]"};
        for (String pattern : banned) {
            Matcher matcher = Pattern.compile(pattern).matcher(text);
            Due.is("rules: " + pattern + " stands nowhere", matcher.find(), false);
        }
        Matcher imports = Pattern.compile("(?m)^import (.*);$").matcher(text);
        while (imports.find()) {
            Due.is("rules: the import", imports.group(1), "java.util.NoSuchElementException");
        }
    }
}
