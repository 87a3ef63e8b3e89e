import java.util.NoSuchElementException;

/** Promises 43 to 45: the output line. */
public final class OutputTest {
    public static void main(String[] args) {
        writeLine();
        writeTrain();
        writeTrainRefused();
        outputAt();
        Due.end();
    }

    private static void writeLine() {
        Due.is("43: no station", new SingleTrackLine().writeLine(), 0);
        Due.is("43: one station", Scenes.drawing(Scenes.line(1, 1)), "[]");
        Due.is("43: two stations", Scenes.drawing(Scenes.line(1, 1, 1, 1)), "[]-[]");
        Due.is("43: the length", Scenes.line(1, 1, 1, 1, 1, 1).writeLine(), 8);
        SingleTrackLine x = Scenes.line(3, 1, 1, 9, 2, 9);
        x.addTrain(2, 1, 1);
        x.addTrain(0, 2, 1);
        x.addTrain(0, 1, 4);
        x.addTrain(0, 1, 3);
        x.addTrain(2, 0, 1);
        Due.is("43: expected trains are not drawn", Scenes.drawing(x), "[]-[]-[]");
        x.advance(5);
        Due.is("43: both directions, two at a station in ascending order", Scenes.drawing(x), "[3,4]>2[]<1[5]");
        Due.is("43: its length", x.writeLine(), 14);
        SingleTrackLine y = Scenes.line(4, 1, 1, 1);
        for (int number = 1; number <= 9; number++) {
            y.addTrain(0, 1, 1);
            y.cancelTrain(number);
        }
        for (int number = 10; number <= 14; number++) {
            y.hold(y.addTrain(0, 1, 1));
        }
        y.advance(2);
        Due.is("43: four numbers of two digits", Scenes.drawing(y), "[10,11,12,13]-[]");
        y.releaseTrain(12);
        y.advance(1);
        Due.is("43: one of them in the section", Scenes.drawing(y), "[10,11,13]>12[]");
    }

    private static void writeTrain() {
        SingleTrackLine x = Scenes.line(1, 1, 1, 9, 1, 9, 1, 9);
        x.addTrain(0, 3, 12);
        x.addTrain(3, 0, 99);
        x.addTrain(1, 2, 5);
        x.addTrain(2, 3, 5);
        Due.is("44: plain", Scenes.sign(x, 1), "1:0>3@12");
        Due.is("44: the length", x.writeTrain(2), 8);
        x.hold(2);
        Due.is("44: held", Scenes.sign(x, 2), "2:3>0@99!");
        Due.is("44: the length when held", x.writeTrain(2), 9);
        x.hold(3);
        x.addTrain(2, 0, 5);
        x.advance(17);
        Due.is("44: waited", Scenes.sign(x, 5), "5:2>0@5+10");
        Due.is("44: waited", Scenes.sign(x, 1), "1:0>3@12+5");
        x.hold(1);
        Due.is("44: held and waited", Scenes.sign(x, 1), "1:0>3@12!+5");
        Due.is("44: the length when held and waited", x.writeTrain(1), 11);
        x.releaseTrain(1);
        x.advance(10);
        Due.is("44: waited two digits", Scenes.sign(x, 1), "1:0>3@12+15");
        Due.is("44: departure of one that is there", Scenes.sign(x, 3), "3:1>2@5!");
    }

    private static void writeTrainRefused() {
        SingleTrackLine x = Scenes.busy();
        int length = x.writeLine();
        int[] wrong = {0, -1, 5, 6, Integer.MIN_VALUE, Integer.MAX_VALUE};
        for (int number : wrong) {
            Due.fails("44: writeTrain(" + number + ")", NoSuchElementException.class, () -> x.writeTrain(number));
            Due.is("44: the line stays", Scenes.output(x, length), "[3]>1[]-[2]");
        }
        Due.is("44: of a train in a section", Scenes.sign(x, 1), "1:0>2@4");
        Due.is("44: of an expected train", Scenes.sign(x, 4), "4:1>0@50");
    }

    private static void outputAt() {
        Class<IndexOutOfBoundsException> index = IndexOutOfBoundsException.class;
        SingleTrackLine x = Scenes.busy();
        Due.fails("45: initially empty", index, () -> x.outputAt(0));
        int length = x.writeLine();
        Due.is("45: first", x.outputAt(0), '[');
        Due.is("45: last", x.outputAt(length - 1), ']');
        int[] wrong = {-1, length, length + 1, Integer.MIN_VALUE, Integer.MAX_VALUE};
        for (int at : wrong) {
            Due.fails("45: outputAt(" + at + ")", index, () -> x.outputAt(at));
        }
        x.writeTrain(1);
        Due.is("45: replaced", Scenes.output(x, 7), "1:0>2@4");
        Due.fails("45: nothing of the longer line is left", index, () -> x.outputAt(7));
        x.advance(20);
        x.undo();
        x.save();
        x.restore();
        Due.is("45: stays until something else is written", Scenes.output(x, 7), "1:0>2@4");
        SingleTrackLine none = new SingleTrackLine();
        none.writeLine();
        Due.fails("45: an empty line was written", index, () -> none.outputAt(0));
        x.restore();
        Scenes.drawing(x);
        Due.is("45: written again", x.writeTrain(1), 7);
    }
}
