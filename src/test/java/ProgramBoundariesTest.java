import java.util.ArrayList;
import java.util.List;
import java.util.TreeSet;

/** The boundary cases of programs: of their grammar in "Terms", and of the promises 39 to 42. */
public final class ProgramBoundariesTest {
    /** Programs of 60 characters, that let 8 minutes pass and that fail with their last command. */
    private static final String SIXTY = "wait 1;wait 1;wait 1;wait 01;wait 01;wait 01;wait 01;wait 01";
    private static final String SIXTY_THAT_FAIL = "wait 1;wait 2;wait 3;wait 4;wait 5;wait 6;wait 7;wait 8;go 1";

    public static void main(String[] args) throws ReflectiveOperationException {
        Boundaries.ask(ProgramBoundariesTest.class);
    }

    private static void errorAt(String text, int position) {
        SingleTrackLine x = Scenes.busy();
        Scenes.type(x, text);
        Due.fails("run of \"" + text + "\"", Boundaries.ARGUMENT, x::run);
        Due.is("the error position of \"" + text + "\"", x.errorPosition(), position);
        Due.fails("the failed command of \"" + text + "\"", Boundaries.NO_ELEMENT, x::failedCommand);
    }

    private static void failsAt(String text, int command) {
        SingleTrackLine x = Scenes.busy();
        Scenes.type(x, text);
        Due.fails("run of \"" + text + "\"", Boundaries.UNSUPPORTED, x::run);
        Due.is("the failed command of \"" + text + "\"", x.failedCommand(), command);
        Due.fails("the error position of \"" + text + "\"", Boundaries.NO_ELEMENT, x::errorPosition);
    }

    private static void isTaken(String text, int commands) {
        Due.is("run of \"" + text + "\"", Scenes.run(Scenes.busy(), text), commands);
    }

    // ---- the grammar

    @Sentence(under = "Terms", value = "The text buffer holds at most 60 characters.")
    static void sixtyCharacters() {
        Due.is("the length of the text", SIXTY.length(), 60);
        SingleTrackLine x = new SingleTrackLine();
        Scenes.type(x, SIXTY);
        Due.is("60 characters are run", x.run(), 8);
        Due.is("all of them", x.time(), 8);
        SingleTrackLine y = new SingleTrackLine();
        Scenes.type(y, SIXTY.substring(0, 59));
        Due.is("the 60th is taken", y.append('9'), 60);
        Due.fails("the 61st is not", Boundaries.STATE, () -> y.append('9'));
        y.run();
        Due.is("the 60th has an effect", y.time(), 16);
    }

    @Sentence(under = "Terms", value = "program = command { \";\" command }")
    static void fromOneCommandOn() {
        errorAt("", 0);
        isTaken("wait 1", 1);
        errorAt("wait 1;", 7);
        isTaken("wait 1;wait 2", 2);
        errorAt(";wait 1", 0);
        errorAt("wait 1;;wait 2", 7);
        errorAt("wait 1 wait 2", 6);
        errorAt(";", 0);
        failsAt("go 3;go 9;go 9;go 9;go 9;go 9;go 9;go 9;go 9;go 9;go 9;go 9", 1);
        errorAt("go 3;go 9;go 9;go 9;go 9;go 9;go 9;go 9;go 9;go 9;go 9;go 9;", 60);
    }

    @Sentence(under = "Terms", value = "command = \"station \" digit \" \" number | \"tracks \" digit \" \" digit | \"train \" "
            + "digit \" \" digit \" \" number | \"hold \" number | \"go \" number")
    static void formsOfCommands() {
        isTaken("station 4 9", 1);
        isTaken("station 4 30", 1);
        errorAt("station 04 9", 9);
        errorAt("station 4 030", 12);
        errorAt("station 4", 9);
        errorAt("station 4 ", 10);
        isTaken("tracks 0 4", 1);
        errorAt("tracks 0 04", 10);
        errorAt("tracks 00 4", 8);
        errorAt("tracks 0 ", 9);
        isTaken("train 0 2 9", 1);
        isTaken("train 0 2 99", 1);
        errorAt("train 0 2 099", 12);
        errorAt("train 00 2 9", 7);
        errorAt("train 0 02 9", 9);
        errorAt("train 0 2", 9);
        isTaken("hold 4", 1);
        isTaken("hold 04", 1);
        errorAt("hold 004", 7);
        errorAt("hold", 4);
        isTaken("go 3", 1);
        isTaken("go 03", 1);
        errorAt("go 003", 5);
        errorAt("go3", 2);
    }

    @Sentence(under = "Terms", value = "| \"cancel \" number | \"wait \" number")
    static void furtherForms() {
        isTaken("cancel 4", 1);
        isTaken("cancel 04", 1);
        errorAt("cancel 004", 9);
        errorAt("cancel ", 7);
        isTaken("wait 9", 1);
        isTaken("wait 60", 1);
        errorAt("wait 060", 7);
        errorAt("wait", 4);
    }

    @Sentence(under = "Terms", value = "number  = digit [ digit ]")
    static void oneOrTwoDigits() {
        errorAt("wait ", 5);
        errorAt("wait ;", 5);
        isTaken("wait 1", 1);
        isTaken("wait 10", 1);
        errorAt("wait 100", 7);
        isTaken("wait 09", 1);
        errorAt("wait 009", 7);
        errorAt("wait -1", 5);
        errorAt("wait +1", 5);
        errorAt("wait /", 5);
        errorAt("wait :", 5);
        errorAt("wait 1/", 6);
        errorAt("wait 1:", 6);
        errorAt("wait " + (char) ('1' + 256), 5);
        errorAt("wait 1" + (char) ('1' + 256), 6);
        errorAt("wait " + (char) 0x661, 5);
        for (char digit = '1'; digit <= '9'; digit++) {
            SingleTrackLine x = new SingleTrackLine();
            Due.is("a digit", Scenes.run(x, "wait " + digit), 1);
            Due.is("what it stands for", x.time(), digit - '0');
        }
        SingleTrackLine x = new SingleTrackLine();
        Scenes.run(x, "wait 06;wait 60");
        Due.is("two digits", x.time(), 66);
    }

    @Sentence(under = "Terms", value = "The error position of a text that is not a program is the index of the first "
            + "character that cannot continue any program with the same preceding characters, or the length of the text "
            + "if the text is a proper prefix of a program.")
    static void errorPositionsOfAllPrefixes() {
        errorAt("", 0);
        errorAt("x", 0);
        errorAt("w", 1);
        errorAt("wait 1;wait 1;wait 1;wait 1;wait 1;wait 1;wait 1;wait 1;", 56);
        errorAt("wait 1;wait 1;wait 1;wait 1;wait 1;wait 1;wait 1;wait 01;x", 57);
        errorAt("wait 1;wait 1;wait 1;wait 1;wait 1;wait 1;wait 1;wait 1;wait", 60);
        errorAt("wait 1;wait 1;wait 1;wait 1;wait 1;wait 1;wait 1;wait 1;waix", 59);
        TreeSet<String> commands = commands();
        TreeSet<String> prefixes = new TreeSet<>();
        for (String command : commands) {
            for (int length = 0; length <= command.length(); length++) {
                prefixes.add(command.substring(0, length));
            }
        }
        for (String prefix : prefixes) {
            if (!commands.contains(prefix)) {
                Due.is("the error position of \"" + prefix + "\"", errorPosition(prefix), prefix.length());
                Due.is("after a command", errorPosition("go 9;" + prefix), 5 + prefix.length());
            }
            for (char next = 0; next < 256; next++) {
                boolean goesOn = prefixes.contains(prefix + next) || commands.contains(prefix) && next == ';';
                if (!goesOn && !isOtherDigit(prefixes, prefix, next)) {
                    Due.is("the error position of \"" + prefix + next + "\"", errorPosition(prefix + next), prefix.length());
                }
            }
        }
    }

    /** All commands whose digits are 0, 5 or 9. */
    private static TreeSet<String> commands() {
        TreeSet<String> commands = new TreeSet<>();
        for (String digit : List.of("0", "5", "9")) {
            for (String other : List.of("0", "5", "9")) {
                commands.add("tracks " + digit + " " + other);
                for (String number : List.of("0", "5", "9", "00", "05", "09", "50", "55", "59", "90", "95", "99")) {
                    commands.add("station " + digit + " " + number);
                    commands.add("train " + digit + " " + other + " " + number);
                    commands.add("hold " + number);
                    commands.add("go " + number);
                    commands.add("cancel " + number);
                    commands.add("wait " + number);
                }
            }
        }
        return commands;
    }

    private static boolean isOtherDigit(TreeSet<String> prefixes, String prefix, char next) {
        return next >= '0' && next <= '9' && prefixes.contains(prefix + '0');
    }

    private static int errorPosition(String text) {
        SingleTrackLine x = new SingleTrackLine();
        Scenes.type(x, text);
        Due.is("run of \"" + text + "\"", Scenes.answer(x::run), "IllegalArgumentException");
        return x.errorPosition();
    }

    // ---- append

    @Sentence(under = "Promise 39", value = "- `character`: any character")
    static void anyCharacter() {
        char[] characters = {0, 1, '\n', ' ', 127, 128, 255, 256, 0x7fff, 0x8000, 0xd800, 0xdfff, 0xffff};
        SingleTrackLine x = new SingleTrackLine();
        for (int length = 1; length <= characters.length; length++) {
            Due.is("the length with " + (int) characters[length - 1], x.append(characters[length - 1]), length);
        }
        for (char character : characters) {
            errorAt("" + character, 0);
            errorAt("wait 1" + character, 6);
            errorAt("wait " + character, 5);
        }
        for (char sign : "w;1 ".toCharArray()) {
            errorAt("" + (char) (sign + 256), 0);
            errorAt("" + (char) (sign + 0x8000), 0);
        }
    }

    @Sentence(under = "Promise 39", value = "Returns the number of characters in the buffer after the call.")
    static void from1To60() {
        SingleTrackLine x = new SingleTrackLine();
        for (int length = 1; length <= 60; length++) {
            Due.is("the number", x.append(' '), length);
        }
        Due.fails("run", Boundaries.ARGUMENT, x::run);
        Due.is("the number after it was emptied", x.append(' '), 1);
    }

    @Sentence(under = "Promise 39", value = "Throws `IllegalStateException` if the buffer contains 60 characters")
    static void the61stCharacter() {
        SingleTrackLine x = new SingleTrackLine();
        Scenes.type(x, SIXTY.substring(0, 59));
        Due.is("with 59", x.append('1'), 60);
        Due.fails("with 60", Boundaries.STATE, () -> x.append('1'));
        Due.fails("with 60 still", Boundaries.STATE, () -> x.append(';'));
        Due.is("the 60 are kept", x.run(), 8);
        Due.is("they are run", x.time(), 8);
        Due.is("then it is empty", x.append('w'), 1);
        for (char character : new char[] {0, '1', ';', 0xffff}) {
            Refusal.withText(SIXTY, "append of " + (int) character, Boundaries.STATE, Scenes::makeBusy,
                    y -> y.append(character));
        }
    }

    // ---- run

    @Sentence(under = "Promise 40", value = {"The commands are carried out in order.",
        "If one of them fails, none of them has an effect."})
    static void allOrNone() {
        SingleTrackLine x = new SingleTrackLine();
        Due.is("each needs those before it", Scenes.run(x, "station 1 1;station 1 1;train 0 1 1;hold 1;go 1;cancel 1"), 6);
        Due.is("the stations stay", x.stationCount(), 2);
        Due.is("the next number", x.addTrain(0, 1, 1), 2);
        String[] fails = {"station 1 1;station 1 1;train 0 1 1;go 1", "station 0 1", "station 1 1;tracks 1 1",
            "station 1 1;station 1 1;train 0 1 1;wait 2;cancel 1"};
        int[] commands = {3, 0, 1, 4};
        for (int i = 0; i < fails.length; i++) {
            SingleTrackLine y = new SingleTrackLine();
            Scenes.type(y, fails[i]);
            Due.fails(fails[i], Boundaries.UNSUPPORTED, y::run);
            Due.is("the failed command of " + fails[i], y.failedCommand(), commands[i]);
            Due.is("the stations after " + fails[i], y.stationCount(), 0);
            Due.is("the time after " + fails[i], y.time(), 0);
            Due.fails("undo after " + fails[i], Boundaries.STATE, y::undo);
            Refusal.ofCommand(fails[i], commands[i], Scenes::leaveEmpty);
        }
        Refusal.ofCommand("cancel 4;hold 2;go 3;wait 60;station 0 1", 4, Scenes::makeBusy);
        Refusal.ofCommand("wait 60;wait 60;wait 60;wait 60;wait 60;wait 61", 5, Scenes::makeBusy);
        Refusal.ofCommand(SIXTY_THAT_FAIL, 8, Scenes::makeBusy);
    }

    @Sentence(under = "Promise 40", value = "The buffer is empty afterwards in every case.")
    static void emptyAfterwards() {
        List<String> texts = new ArrayList<>(List.of("", "wait 1", "w", "x", "wait 0", SIXTY, SIXTY_THAT_FAIL));
        texts.add("x".repeat(60));
        for (String text : texts) {
            SingleTrackLine x = Scenes.busy();
            Scenes.type(x, text);
            Scenes.answer(x::run);
            Due.is("the number of characters after \"" + text + "\"", x.append('g') - 1, 0);
            Scenes.type(x, "o 3");
            Due.is("what is run then", x.run(), 1);
            Due.is("has its effect", x.isHeld(3), false);
            Due.fails("and the buffer is empty again", Boundaries.ARGUMENT, x::run);
            Due.is("so the error position is 0", x.errorPosition(), 0);
        }
    }

    @Sentence(under = "Promise 40", value = "Returns the number of commands.")
    static void from1To11Commands() {
        for (int count = 1; count <= 8; count++) {
            String waits = "wait 1;".repeat(count - 1) + "wait 1";
            Due.is("commands of \"" + waits + "\"", Scenes.run(new SingleTrackLine(), waits), count);
        }
        SingleTrackLine x = Scenes.on(Scenes::makeSixTrains);
        for (int number = 1; number <= 6; number++) {
            x.hold(number);
        }
        String most = "go 1;go 2;go 3;go 4;go 5;go 6;hold 1;go 1;hold 2;go 2;hold 3";
        Due.is("the length of the most commands that can succeed", most.length(), 60);
        Due.is("the most commands", Scenes.run(x, most), 11);
        Due.is("the last of them has its effect", x.isHeld(3), true);
        Due.is("and the one before", x.isHeld(2), false);
    }

    @Sentence(under = "Promise 40", value =
            "Throws `IllegalArgumentException` if the text is not a program; the error position is stored")
    static void notAProgram() {
        isTaken("wait 1", 1);
        Refusal.ofText("", 0, Scenes::makeBusy);
        Refusal.ofText("wait", 4, Scenes::makeBusy);
        Refusal.ofText("wait 1;", 7, Scenes::makeBusy);
        Refusal.ofText("wait 1x", 6, Scenes::makeBusy);
        Refusal.ofText("wait 100", 7, Scenes::makeBusy);
        Refusal.ofText("wait 0;x", 7, Scenes::makeBusy);
        Refusal.ofText("x".repeat(60), 0, Scenes::makeBusy);
        Refusal.ofText(SIXTY.substring(0, 59) + ";", 60, Scenes::makeBusy);
        Refusal.ofText(SIXTY.substring(0, 58) + "x;", 58, Scenes::makeBusy);
        Refusal.ofText("", 0, Scenes::leaveEmpty);
    }

    @Sentence(under = "Promise 40", value = "Throws `UnsupportedOperationException` if a command fails, that is, if its "
            + "method would throw an exception; the index of the command, from 0, is stored as the failed command")
    static void aCommandFails() {
        commandOnBothSides("station 1 1", "station 0 1");
        commandOnBothSides("station 4 1", "station 5 1");
        commandOnBothSides("station 1 1", "station 1 0");
        commandOnBothSides("station 1 30", "station 1 31");
        commandOnBothSides("tracks 2 1", "tracks 3 1");
        commandOnBothSides("tracks 2 1", "tracks 2 0");
        commandOnBothSides("tracks 2 4", "tracks 2 5");
        commandOnBothSides("train 2 0 1", "train 3 0 1");
        commandOnBothSides("train 0 2 1", "train 0 3 1");
        commandOnBothSides("train 0 1 1", "train 1 1 1");
        commandOnBothSides("train 0 1 01", "train 0 1 0");
        commandOnBothSides("train 0 1 99", "train 0 1 00");
        commandOnBothSides("hold 1", "hold 0");
        commandOnBothSides("hold 4", "hold 5");
        commandOnBothSides("hold 2", "hold 3");
        commandOnBothSides("go 3", "go 2");
        commandOnBothSides("go 03", "go 99");
        commandOnBothSides("cancel 2", "cancel 1");
        commandOnBothSides("cancel 4", "cancel 5");
        commandOnBothSides("wait 1", "wait 0");
        commandOnBothSides("wait 60", "wait 61");
        Refusal.ofCommand("station 1 1", 0, Scenes::makeFull);
        Refusal.ofCommand("train 0 1 1", 0, Scenes::makeSixTrains);
        Refusal.ofCommand("wait 6;tracks 1 4;wait 99", 2, Scenes::makeBusy);
        Refusal.ofCommand("go 9;go 9;go 9;go 9;go 9;go 9;go 9;go 9;go 9;go 9;go 9;go 9", 0, Scenes::makeBusy);
        Refusal.ofCommand("wait 1;wait 1;wait 1;wait 1;wait 1;wait 1;wait 1;wait 1;go 9", 8, Scenes::makeBusy);
    }

    private static void commandOnBothSides(String taken, String refused) {
        isTaken(taken, 1);
        Refusal.ofCommand(refused, 0, Scenes::makeBusy);
        Refusal.ofCommand("wait 1;" + refused, 1, Scenes::makeBusy);
        Refusal.ofCommand(refused + ";wait 1", 0, Scenes::makeBusy);
    }

    // ---- what is stored

    @Sentence(under = "Promise 41", value = {"Returns the error position that was stored last.",
        "Throws `NoSuchElementException` if none was stored"})
    static void noErrorPosition() {
        SingleTrackLine x = new SingleTrackLine();
        Due.fails("a new object", Boundaries.NO_ELEMENT, x::errorPosition);
        Scenes.run(x, "wait 1");
        Due.fails("after a program", Boundaries.NO_ELEMENT, x::errorPosition);
        Scenes.type(x, "wait 0");
        Due.fails("a command fails", Boundaries.UNSUPPORTED, x::run);
        Due.fails("after a failed command", Boundaries.NO_ELEMENT, x::errorPosition);
        Due.fails("an empty text", Boundaries.ARGUMENT, x::run);
        Due.is("the least position", x.errorPosition(), 0);
        Scenes.type(x, SIXTY.substring(0, 59) + ";");
        Due.fails("a prefix of 60 characters", Boundaries.ARGUMENT, x::run);
        Due.is("the greatest position", x.errorPosition(), 60);
        Scenes.run(x, "wait 1");
        Due.is("it stays after a program", x.errorPosition(), 60);
        Due.is("and after a question", x.errorPosition(), 60);
        x.undo();
        Due.is("and after undo", x.errorPosition(), 60);
    }

    @Sentence(under = "Promise 42", value = {"Returns the failed command that was stored last.",
        "Throws `NoSuchElementException` if none was stored"})
    static void noFailedCommand() {
        SingleTrackLine x = new SingleTrackLine();
        Due.fails("a new object", Boundaries.NO_ELEMENT, x::failedCommand);
        Scenes.run(x, "wait 1");
        Due.fails("after a program", Boundaries.NO_ELEMENT, x::failedCommand);
        Due.fails("an empty text", Boundaries.ARGUMENT, x::run);
        Due.fails("after an error", Boundaries.NO_ELEMENT, x::failedCommand);
        Due.fails("a refused call", Boundaries.ARGUMENT, () -> x.advance(0));
        Due.fails("after a refused call", Boundaries.NO_ELEMENT, x::failedCommand);
        Scenes.type(x, SIXTY_THAT_FAIL);
        Due.fails("the last of nine commands fails", Boundaries.UNSUPPORTED, x::run);
        Due.is("its index", x.failedCommand(), 8);
        Scenes.type(x, "go 1;wait 1");
        Due.fails("the first of two commands fails", Boundaries.UNSUPPORTED, x::run);
        Due.is("the least index", x.failedCommand(), 0);
        Scenes.type(x, "x");
        Due.fails("an error", Boundaries.ARGUMENT, x::run);
        Due.is("it stays after an error", x.failedCommand(), 0);
        Scenes.run(x, "wait 1");
        Due.is("and after a program", x.failedCommand(), 0);
    }
}
