/** The boundary cases of the promises 43 to 45: the output line. */
public final class OutputBoundariesTest {
    public static void main(String[] args) throws ReflectiveOperationException {
        Boundaries.ask(OutputBoundariesTest.class);
    }

    @Sentence(under = "Promise 43", value = {"Writes the line to the output line, replacing its content: for each station "
            + "\"[\", the numbers of the trains at it in ascending order with \",\" between two of them, and \"]\", and "
            + "after each station but the last one the next section as \"-\" if its token is free, or otherwise \"<\" or "
            + "\">\" for a train that runs to the lower or to the higher station, and the number of this train; for example "
            + "\"[1,4]-[]>2[3]\".", "Returns the length of the line."})
    static void from0To7Stations() {
        SingleTrackLine x = new SingleTrackLine();
        String[] due = {"", "[]", "[]-[]", "[]-[]-[]", "[]-[]-[]-[]", "[]-[]-[]-[]-[]", "[]-[]-[]-[]-[]-[]",
            "[]-[]-[]-[]-[]-[]-[]"};
        for (int count = 0; count <= 7; count++) {
            Due.is("the length of so many stations: " + count, x.writeLine(), due[count].length());
            Due.is("so many stations: " + count, Scenes.drawing(x), due[count]);
            if (count < 7) {
                x.addStation(4, 30);
            }
        }
        for (int number = 1; number <= 5; number++) {
            x.hold(x.addTrain(0, 1, number));
        }
        x.addTrain(6, 0, 1);
        String[] trains = {"1", "1,2", "1,2,3", "1,2,3,4", "1,2,3,4"};
        for (int minute = 1; minute <= 5; minute++) {
            x.advance(1);
            String last = minute == 1 ? "-[6]" : "<6[]";
            Due.is("in minute " + minute, Scenes.drawing(x), "[" + trains[minute - 1] + "]-[]-[]-[]-[]-[]" + last);
        }
        x.cancelTrain(1);
        x.releaseTrain(3);
        x.advance(1);
        Due.is("the lowest and a middle one have gone, another one came", Scenes.drawing(x),
                "[2,4,5]>3[]-[]-[]-[]-[]<6[]");
        theExample();
    }

    private static void theExample() {
        SingleTrackLine x = Scenes.line(2, 1, 1, 9, 1, 9);
        x.hold(x.addTrain(0, 1, 1));
        x.addTrain(1, 2, 1);
        x.hold(x.addTrain(2, 1, 1));
        x.hold(x.addTrain(0, 1, 1));
        x.advance(2);
        Due.is("the example of the document", Scenes.drawing(x), "[1,4]-[]>2[3]");
        Due.is("the example's length", x.writeLine(), 13);
    }

    @Sentence(under = "Promise 44", value = {"Writes a train to the output line, replacing its content: the number, \":\", "
            + "the start station, \">\", the destination, \"@\", the departure time, \"!\" if it is held, and \"+\" and the "
            + "waited minutes if these are not 0; for example \"4:0>3@12!+5\".", "Returns the length of the line."})
    static void heldOrNotAndWaitedOrNot() {
        SingleTrackLine x = Scenes.line(1, 1, 1, 1, 1, 1, 1, 1);
        x.hold(x.addTrain(1, 0, 1));
        for (int number = 2; number <= 3; number++) {
            x.cancelTrain(x.addTrain(0, 1, 1));
        }
        x.addTrain(0, 3, 12);
        Due.is("not held, not waited", Scenes.sign(x, 4), "4:0>3@12");
        Due.is("the length", x.writeTrain(4), 8);
        x.advance(12);
        Due.is("it has just come", Scenes.sign(x, 4), "4:0>3@12");
        x.advance(1);
        Due.is("waited 1", Scenes.sign(x, 4), "4:0>3@12+1");
        x.advance(4);
        x.hold(4);
        Due.is("the example of the document", Scenes.sign(x, 4), "4:0>3@12!+5");
        Due.is("the example's length", x.writeTrain(4), 11);
        Due.is("held, not waited", Scenes.sign(x, 1), "1:1>0@1!");
        x.releaseTrain(4);
        Due.is("not held, but waited", Scenes.sign(x, 4), "4:0>3@12+5");
        x.advance(4);
        Due.is("waited 9", Scenes.sign(x, 4), "4:0>3@12+9");
        x.advance(1);
        Due.is("waited 10", Scenes.sign(x, 4), "4:0>3@12+10");

        SingleTrackLine far = Scenes.line(1, 1, 1, 1, 1, 1, 1, 1, 1, 1, 1, 1, 1, 1);
        for (int number = 1; number < 100; number++) {
            far.cancelTrain(far.addTrain(0, 6, 1));
        }
        for (int call = 0; call < 250; call++) {
            far.advance(60);
        }
        far.addTrain(6, 0, 99);
        Due.is("a number of three digits, a departure of five", Scenes.sign(far, 100), "100:6>0@15099");
    }

    @Sentence(under = "Promise 44", value = "Throws `NoSuchElementException` if there is no such train")
    static void writeNoTrain() {
        Due.is("the first", Scenes.sign(Scenes.busy(), 1), "1:0>2@4");
        Due.is("the last", Scenes.sign(Scenes.busy(), 4), "4:1>0@50");
        Due.is("the last of six", Scenes.sign(Scenes.on(Scenes::makeSixTrains), 6), "6:2>0@6");
        Refusal.ofNoTrain(SingleTrackLine::writeTrain);
    }

    @Sentence(under = "Promise 45", value = "Returns a character of the output line, which is initially empty.")
    static void initiallyEmpty() {
        Due.fails("a new object", Boundaries.INDEX, () -> new SingleTrackLine().outputAt(0));
        SingleTrackLine x = Scenes.busy();
        Due.fails("before anything is written", Boundaries.INDEX, () -> x.outputAt(0));
        Due.fails("a train that there is not", Boundaries.NO_ELEMENT, () -> x.writeTrain(5));
        Due.fails("nothing was written", Boundaries.INDEX, () -> x.outputAt(0));
        Due.is("the line is written", x.writeLine(), 11);
        Due.is("it begins", x.outputAt(0), '[');
        SingleTrackLine none = new SingleTrackLine();
        Due.is("a line without stations is written", none.writeLine(), 0);
        Due.fails("it is empty, too", Boundaries.INDEX, () -> none.outputAt(0));
    }

    @Sentence(under = "Promise 45", value = "- `index`: the index, from 0")
    static void indicesFrom0() {
        SingleTrackLine x = Scenes.busy();
        x.writeTrain(1);
        String due = "1:0>2@4";
        for (int index = 0; index < due.length(); index++) {
            Due.is("the character " + index, x.outputAt(index), due.charAt(index));
        }
        Due.fails("the character -1", Boundaries.INDEX, () -> x.outputAt(-1));
    }

    @Sentence(under = "Promise 45", value =
            "Throws `IndexOutOfBoundsException` if the index is negative or not less than the length of the line")
    static void noSuchIndex() {
        SingleTrackLine x = Scenes.busy();
        int length = x.writeLine();
        Due.is("the last character", x.outputAt(length - 1), ']');
        Due.is("the first character", x.outputAt(0), '[');
        for (int index : Boundaries.outside(0, length - 1)) {
            Refusal.of("the index " + index, Boundaries.INDEX, Scenes::makeBusy, y -> y.outputAt(index));
        }
        x.writeTrain(1);
        Due.is("the last character of a shorter line", x.outputAt(6), '4');
        Due.fails("the next one, where the longer line had one", Boundaries.INDEX, () -> x.outputAt(7));
        x.writeLine();
        Due.is("when the longer line is written again", x.outputAt(7), '-');
        Refusal.of("the index 0 of an empty line", Boundaries.INDEX, Scenes::leaveEmpty, y -> y.outputAt(0));
    }
}
