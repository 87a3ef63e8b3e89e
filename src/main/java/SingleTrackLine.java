import java.util.NoSuchElementException;

/** A simulator of a single-track railway line with tokens, waiting trains, delays and predictions. */
public final class SingleTrackLine {

    private static final int MAX_STATIONS = 7;
    private static final int MAX_SECTIONS = MAX_STATIONS - 1;
    private static final int MAX_TRACKS = 4;
    private static final int MAX_RUNNING_TIME = 30;
    private static final int MAX_TRAINS = 6;
    private static final int MAX_MINUTES_TO_DEPARTURE = 99;
    private static final int MAX_ADVANCE = 60;
    private static final int PREDICTED_MINUTES = 300;
    private static final int TEXT_LIMIT = 60;
    private static final int UNDO_LIMIT = 8;
    private static final int MAX_ARGUMENTS = 3;

    private static final char SEPARATOR = ';';
    private static final char DIGIT = '#';
    private static final char NUMBER = '%';

    /** Stands for a position, a minute or an index that there is not. */
    private static final int NONE = -1;

    // A command answers a number from 0, or one of these if it is refused.
    private static final int NO_SUCH_PLACE = -1;
    private static final int WRONG_ARGUMENT = -2;
    private static final int WRONG_STATE = -3;
    private static final int NO_SUCH_TRAIN = -4;

    private static final Command[] COMMANDS = Command.values();

    private final Line line = new Line();
    private final Line saved = new Line();
    private final Line forecast = new Line();
    private final History history = new History();
    private final Program program = new Program();
    private final StringBuilder output = new StringBuilder();
    private boolean isSaved;
    private int storedErrorPosition = NONE;
    private int storedFailedCommand = NONE;

    public SingleTrackLine() {
    }

    // ---- the line

    public int addStation(int tracks, int runningTime) throws IllegalArgumentException, IllegalStateException {
        return change(Command.STATION, tracks, runningTime, 0);
    }

    public int setTracks(int station, int tracks)
            throws IndexOutOfBoundsException, IllegalArgumentException, IllegalStateException {
        return change(Command.TRACKS, station, tracks, 0);
    }

    // ---- trains and time

    public int addTrain(int start, int destination, int minutes)
            throws IndexOutOfBoundsException, IllegalArgumentException, IllegalStateException {
        return change(Command.TRAIN, start, destination, minutes);
    }

    public int hold(int train) throws NoSuchElementException, IllegalStateException {
        return change(Command.HOLD, train, 0, 0);
    }

    public int releaseTrain(int train) throws NoSuchElementException, IllegalStateException {
        return change(Command.GO, train, 0, 0);
    }

    public int cancelTrain(int train) throws NoSuchElementException, IllegalStateException {
        return change(Command.CANCEL, train, 0, 0);
    }

    public int advance(int minutes) throws IllegalArgumentException {
        return change(Command.WAIT, minutes, 0, 0);
    }

    private int change(Command command, int first, int second, int third) {
        history.note(line);
        int answer = line.carryOut(command, first, second, third);
        throwIfRefused(answer);
        history.keepNoted();
        return answer;
    }

    private static void throwIfRefused(int answer) {
        if (answer == NO_SUCH_PLACE) {
            throw new IndexOutOfBoundsException("no such station");
        }
        if (answer == WRONG_ARGUMENT) {
            throw new IllegalArgumentException("an argument is out of range");
        }
        if (answer == WRONG_STATE) {
            throw new IllegalStateException("the line or the train does not allow it now");
        }
        if (answer == NO_SUCH_TRAIN) {
            throw new NoSuchElementException("no such train");
        }
    }

    // ---- queries about the line

    public int stationCount() {
        return line.stationCount;
    }

    public int tracks(int station) throws IndexOutOfBoundsException {
        requireStation(station);
        return line.tracks[station];
    }

    public int freeTracks(int station) throws IndexOutOfBoundsException {
        requireStation(station);
        return line.countFreeTracks(station);
    }

    public int trainsAt(int station) throws IndexOutOfBoundsException {
        requireStation(station);
        int count = 0;
        for (Train train : line.trains) {
            if (train.isAt(station)) {
                count++;
            }
        }
        return count;
    }

    public int runningTime(int section) throws IndexOutOfBoundsException {
        requireSection(section);
        return line.runningTimes[section];
    }

    public boolean isTokenFree(int section) throws IndexOutOfBoundsException {
        requireSection(section);
        return line.findHolder(section) == null;
    }

    public int tokenHolder(int section) throws IndexOutOfBoundsException, NoSuchElementException {
        requireSection(section);
        Train holder = line.findHolder(section);
        if (holder == null) {
            throw new NoSuchElementException("the token is free");
        }
        return holder.number;
    }

    public int distance(int one, int other) throws IndexOutOfBoundsException {
        requireStation(one);
        requireStation(other);
        return line.sumRunningTimes(one, other);
    }

    public int distanceByPositions(int one, int other) throws IndexOutOfBoundsException {
        requireStation(one);
        requireStation(other);
        return line.subtractPositions(one, other);
    }

    private void requireStation(int station) {
        if (!line.hasStation(station)) {
            throw new IndexOutOfBoundsException("no such station");
        }
    }

    private void requireSection(int section) {
        if (!line.hasSection(section)) {
            throw new IndexOutOfBoundsException("no such section");
        }
    }

    // ---- queries about trains

    public int trainCount() {
        return line.trainCount;
    }

    public boolean exists(int train) {
        return line.findTrain(train) != null;
    }

    public boolean isExpected(int train) throws NoSuchElementException {
        return requireTrain(train).place == Place.EXPECTED;
    }

    public boolean isHeld(int train) throws NoSuchElementException {
        return requireTrain(train).isHeld;
    }

    public int stationOf(int train) throws NoSuchElementException, IllegalStateException {
        Train found = requireTrain(train);
        if (found.place != Place.AT_STATION) {
            throw new IllegalStateException("the train is not at a station");
        }
        return found.station;
    }

    public int sectionOf(int train) throws NoSuchElementException, IllegalStateException {
        return requireTrainInSection(train).section;
    }

    public int remainingTime(int train) throws NoSuchElementException, IllegalStateException {
        return requireTrainInSection(train).remaining;
    }

    public int waitedMinutes(int train) throws NoSuchElementException {
        return requireTrain(train).waited;
    }

    public int plannedArrival(int train) throws NoSuchElementException {
        return requireTrain(train).planned;
    }

    public int arrivalAlone(int train) throws NoSuchElementException, IllegalStateException {
        Train found = requireTrain(train);
        if (!line.isYetToDepart(found)) {
            throw new IllegalStateException("the train is not expected, or its departure time has come");
        }
        forecast.copyAlone(line, train);
        return forecast.passUntilArrival(train);
    }

    public int predictedArrival(int train) throws NoSuchElementException {
        requireTrain(train);
        forecast.copyFrom(line);
        int arrival = forecast.passUntilArrival(train);
        if (arrival == NONE) {
            throw new NoSuchElementException("the train does not arrive within the predicted minutes");
        }
        return arrival;
    }

    public int stuckTrains() {
        forecast.copyFrom(line);
        return forecast.passUntilStuck();
    }

    public int trainAtRank(int rank) throws NoSuchElementException {
        for (Train train : line.trains) {
            if (train.isPresent() && line.findRank(train) == rank) {
                return train.number;
            }
        }
        throw new NoSuchElementException("no such rank");
    }

    private Train requireTrain(int number) {
        Train train = line.findTrain(number);
        if (train == null) {
            throw new NoSuchElementException("no such train");
        }
        return train;
    }

    private Train requireTrainInSection(int number) {
        Train train = requireTrain(number);
        if (train.place != Place.IN_SECTION) {
            throw new IllegalStateException("the train is not in a section");
        }
        return train;
    }

    // ---- queries about time and totals

    public int time() {
        return line.time;
    }

    public int finishedTrains() {
        return line.finishedCount;
    }

    public int lastFinished() throws NoSuchElementException {
        requireFinished();
        return line.lastFinishedNumber;
    }

    public long totalDelay() {
        return line.delaySum;
    }

    public int greatestDelay() throws NoSuchElementException {
        requireFinished();
        return line.longestDelay;
    }

    public double meanDelay() throws ArithmeticException {
        if (line.finishedCount <= 0) {
            throw new ArithmeticException("no train has finished");
        }
        return (double) line.delaySum / (double) line.finishedCount;
    }

    public float punctualShare() throws ArithmeticException {
        if (line.finishedCount <= 0) {
            throw new ArithmeticException("no train has finished");
        }
        return (float) line.punctualCount / (float) line.finishedCount;
    }

    public boolean isConsistent() {
        return line.hasNoOverfullStation()
                && line.hasNoSharedSection()
                && line.hasAgreeingDistances()
                && forecast.confirmsPlansOf(line);
    }

    private void requireFinished() {
        if (line.finishedCount <= 0) {
            throw new NoSuchElementException("no train has finished");
        }
    }

    // ---- programs

    public int append(char character) throws IllegalStateException {
        if (program.isFull()) {
            throw new IllegalStateException("the text buffer is full");
        }
        return program.put(character);
    }

    public int run() throws IllegalArgumentException, UnsupportedOperationException {
        requireProgram();
        history.note(line);
        program.rewind();
        int[] arguments = program.arguments;
        int index = 0;
        int answer = 0;
        while (index < program.commandCount && answer >= 0) {
            program.readNextCommand();
            answer = line.carryOut(program.command, arguments[0], arguments[1], arguments[2]);
            index++;
        }
        program.empty();
        if (answer < 0) {
            storedFailedCommand = index - 1;
            line.copyFrom(history.noted());
            throw new UnsupportedOperationException("a command of the program fails");
        }
        history.keepNoted();
        return index;
    }

    public int errorPosition() throws NoSuchElementException {
        if (storedErrorPosition == NONE) {
            throw new NoSuchElementException("no error position is stored");
        }
        return storedErrorPosition;
    }

    public int failedCommand() throws NoSuchElementException {
        if (storedFailedCommand == NONE) {
            throw new NoSuchElementException("no failed command is stored");
        }
        return storedFailedCommand;
    }

    private void requireProgram() {
        int position = program.findError();
        if (position != NONE) {
            storedErrorPosition = position;
            program.empty();
            throw new IllegalArgumentException("the text is not a program");
        }
    }

    // ---- output

    public int writeLine() {
        output.setLength(0);
        for (int station = 0; station < line.stationCount; station++) {
            if (station > 0) {
                writeSection(station - 1);
            }
            writeStation(station);
        }
        return output.length();
    }

    public int writeTrain(int train) throws NoSuchElementException {
        Train found = requireTrain(train);
        output.setLength(0);
        output.append(found.number).append(':').append(found.start);
        output.append('>').append(found.destination);
        output.append('@').append(found.departure);
        if (found.isHeld) {
            output.append('!');
        }
        if (found.waited != 0) {
            output.append('+').append(found.waited);
        }
        return output.length();
    }

    public char outputAt(int index) throws IndexOutOfBoundsException {
        if (index < 0 || index >= output.length()) {
            throw new IndexOutOfBoundsException("no such character in the output line");
        }
        return output.charAt(index);
    }

    private void writeStation(int station) {
        output.append('[');
        boolean isFirst = true;
        for (Train train : line.trains) {
            if (train.isAt(station)) {
                if (!isFirst) {
                    output.append(',');
                }
                output.append(train.number);
                isFirst = false;
            }
        }
        output.append(']');
    }

    private void writeSection(int section) {
        Train holder = line.findHolder(section);
        if (holder == null) {
            output.append('-');
        } else {
            output.append(holder.step() > 0 ? '>' : '<').append(holder.number);
        }
    }

    // ---- undo

    public int undo() throws IllegalStateException {
        if (history.count <= 0) {
            throw new IllegalStateException("no call can be undone");
        }
        line.copyFrom(history.takeLast());
        return history.count;
    }

    public void save() {
        saved.copyFrom(line);
        isSaved = true;
    }

    public void restore() throws IllegalStateException {
        if (!isSaved) {
            throw new IllegalStateException("no state was saved");
        }
        line.copyFrom(saved);
        history.count = 0;
    }

    private enum Place {
        ABSENT, EXPECTED, AT_STATION, IN_SECTION
    }

    /** The commands of a program; in a form, # stands for a digit and % for a number. */
    private enum Command {
        STATION("station # %"),
        TRACKS("tracks # #"),
        TRAIN("train # # %"),
        HOLD("hold %"),
        GO("go %"),
        CANCEL("cancel %"),
        WAIT("wait %");

        final String form;

        Command(String form) {
            this.form = form;
        }
    }

    private static final class Train {
        Place place = Place.ABSENT;
        int number;
        int start;
        int destination;
        int departure;
        int planned;
        /** Where the train is, or where it runs to in its section. */
        int station;
        /** Like the remaining time, of no meaning unless the train is in a section. */
        int section;
        int remaining;
        boolean isHeld;
        int waited;
        /** The minute in which the train came to its station. */
        int cameAt;

        boolean isPresent() {
            return place != Place.ABSENT;
        }

        boolean isAt(int someStation) {
            return place == Place.AT_STATION && station == someStation;
        }

        int step() {
            return destination > start ? 1 : -1;
        }

        void stopAt(int newStation, int minute) {
            place = Place.AT_STATION;
            station = newStation;
            cameAt = minute;
        }

        void enterSection(int newSection, int nextStation, int runningTime) {
            place = Place.IN_SECTION;
            section = newSection;
            station = nextStation;
            remaining = runningTime;
        }

        boolean leavesBefore(Train other) {
            if (departure != other.departure) {
                return departure < other.departure;
            }
            return number < other.number;
        }

        boolean ranksBefore(Train other) {
            if (waited != other.waited) {
                return waited > other.waited;
            }
            if (planned != other.planned) {
                return planned < other.planned;
            }
            return number < other.number;
        }

        void copyFrom(Train other) {
            place = other.place;
            number = other.number;
            start = other.start;
            destination = other.destination;
            departure = other.departure;
            planned = other.planned;
            station = other.station;
            section = other.section;
            remaining = other.remaining;
            isHeld = other.isHeld;
            waited = other.waited;
            cameAt = other.cameAt;
        }
    }

    /** The whole state that undo, save and restore concern. */
    private static final class Line {
        int stationCount;
        final int[] tracks = new int[MAX_STATIONS];
        final int[] runningTimes = new int[MAX_SECTIONS];
        /** The distances of the stations from the station 0. */
        final int[] positions = new int[MAX_STATIONS];
        /** The trains in the order of their numbers, and after them the absent ones. */
        final Train[] trains = new Train[MAX_TRAINS];
        int trainCount;
        int lastNumber;
        int time;
        int finishedCount;
        int lastFinishedNumber;
        long delaySum;
        /** From 0, since no train arrives before its plan. */
        int longestDelay;
        int punctualCount;

        Line() {
            for (int slot = 0; slot < MAX_TRAINS; slot++) {
                trains[slot] = new Train();
            }
        }

        void copyFrom(Line other) {
            stationCount = other.stationCount;
            System.arraycopy(other.tracks, 0, tracks, 0, MAX_STATIONS);
            System.arraycopy(other.runningTimes, 0, runningTimes, 0, MAX_SECTIONS);
            System.arraycopy(other.positions, 0, positions, 0, MAX_STATIONS);
            for (int slot = 0; slot < MAX_TRAINS; slot++) {
                trains[slot].copyFrom(other.trains[slot]);
            }
            trainCount = other.trainCount;
            lastNumber = other.lastNumber;
            time = other.time;
            finishedCount = other.finishedCount;
            lastFinishedNumber = other.lastFinishedNumber;
            delaySum = other.delaySum;
            longestDelay = other.longestDelay;
            punctualCount = other.punctualCount;
        }

        // ---- changes

        /** Answers what the command answers, or why it is refused; then nothing has changed. */
        int carryOut(Command command, int first, int second, int third) {
            switch (command) {
                case STATION:
                    return putStation(first, second);
                case TRACKS:
                    return changeTracks(first, second);
                case TRAIN:
                    return putTrain(first, second, third);
                case HOLD:
                    return changeHolding(first, true);
                case GO:
                    return changeHolding(first, false);
                case CANCEL:
                    return takeTrainOff(first);
                default:
                    return letPass(first);
            }
        }

        private int putStation(int trackCount, int runningTime) {
            if (!isTrackCount(trackCount) || runningTime < 1 || runningTime > MAX_RUNNING_TIME) {
                return WRONG_ARGUMENT;
            }
            int station = stationCount;
            if (station >= MAX_STATIONS) {
                return WRONG_STATE;
            }
            tracks[station] = trackCount;
            if (station > 0) {
                runningTimes[station - 1] = runningTime;
                positions[station] = positions[station - 1] + runningTime;
            }
            stationCount++;
            return station;
        }

        private int changeTracks(int station, int trackCount) {
            if (!hasStation(station)) {
                return NO_SUCH_PLACE;
            }
            if (!isTrackCount(trackCount)) {
                return WRONG_ARGUMENT;
            }
            int previous = tracks[station];
            if (previous - countFreeTracks(station) > trackCount) {
                return WRONG_STATE;
            }
            tracks[station] = trackCount;
            return previous;
        }

        private int putTrain(int start, int destination, int minutes) {
            if (!hasStation(start) || !hasStation(destination)) {
                return NO_SUCH_PLACE;
            }
            if (start == destination || minutes < 1 || minutes > MAX_MINUTES_TO_DEPARTURE) {
                return WRONG_ARGUMENT;
            }
            if (trainCount >= MAX_TRAINS) {
                return WRONG_STATE;
            }
            lastNumber++;
            Train train = trains[trainCount];
            trainCount++;
            train.place = Place.EXPECTED;
            train.number = lastNumber;
            train.start = start;
            train.destination = destination;
            train.departure = time + minutes;
            train.planned = train.departure + sumRunningTimes(start, destination) + Math.abs(destination - start);
            train.station = NONE;
            train.section = NONE;
            train.remaining = 0;
            train.isHeld = false;
            train.waited = 0;
            train.cameAt = NONE;
            return train.number;
        }

        private int changeHolding(int number, boolean isHeld) {
            Train train = findTrain(number);
            if (train == null) {
                return NO_SUCH_TRAIN;
            }
            if (train.isHeld == isHeld) {
                return WRONG_STATE;
            }
            train.isHeld = isHeld;
            int count = 0;
            for (Train each : trains) {
                if (each.isPresent() && each.isHeld) {
                    count++;
                }
            }
            return count;
        }

        private int takeTrainOff(int number) {
            Train train = findTrain(number);
            if (train == null) {
                return NO_SUCH_TRAIN;
            }
            if (train.place == Place.IN_SECTION) {
                return WRONG_STATE;
            }
            remove(train);
            return trainCount;
        }

        private int letPass(int minutes) {
            if (minutes < 1 || minutes > MAX_ADVANCE) {
                return WRONG_ARGUMENT;
            }
            int finishedBefore = finishedCount;
            for (int minute = 0; minute < minutes; minute++) {
                passMinute();
            }
            return finishedCount - finishedBefore;
        }

        private void remove(Train gone) {
            int kept = 0;
            for (int slot = 0; slot < MAX_TRAINS; slot++) {
                Train train = trains[slot];
                if (train != gone) {
                    trains[kept] = train;
                    kept++;
                }
            }
            trains[MAX_TRAINS - 1] = gone;
            gone.place = Place.ABSENT;
            trainCount--;
        }

        // ---- one minute

        private void passMinute() {
            time++;
            moveTrains();
            bringExpectedTrains();
            letTrainsLeave();
        }

        private void moveTrains() {
            for (int section = 0; section < stationCount - 1; section++) {
                Train train = findHolder(section);
                if (train != null) {
                    train.remaining--;
                    if (train.remaining <= 0) {
                        arrive(train);
                    }
                }
            }
        }

        private void arrive(Train train) {
            if (train.station != train.destination) {
                train.stopAt(train.station, time);
                return;
            }
            int delay = time - train.planned;
            longestDelay = Math.max(longestDelay, delay);
            if (delay == 0) {
                punctualCount++;
            }
            delaySum += delay;
            finishedCount++;
            lastFinishedNumber = train.number;
            remove(train);
        }

        private void bringExpectedTrains() {
            for (Train train : trains) {
                if (train.place == Place.EXPECTED && train.departure <= time && countFreeTracks(train.start) > 0) {
                    train.stopAt(train.start, time);
                }
            }
        }

        private void letTrainsLeave() {
            Train train = findNextToLeave(null);
            for (int turn = 0; turn < MAX_TRAINS && train != null; turn++) {
                if (train.place == Place.AT_STATION && train.cameAt != time && !train.isHeld) {
                    tryToLeave(train);
                }
                train = findNextToLeave(train);
            }
        }

        private void tryToLeave(Train train) {
            int nextStation = train.station + train.step();
            int nextSection = Math.min(train.station, nextStation);
            if (!hasSection(nextSection)) {
                return;
            }
            boolean hasRoom = nextStation == train.destination || countFreeTracks(nextStation) > 0;
            if (hasRoom && findHolder(nextSection) == null) {
                train.enterSection(nextSection, nextStation, runningTimes[nextSection]);
            } else {
                train.waited++;
            }
        }

        /** Answers the train after the previous one by departure time and number, the first one after null. */
        private Train findNextToLeave(Train previous) {
            Train next = null;
            for (Train train : trains) {
                boolean isLater = previous == null || previous.leavesBefore(train);
                if (train.isPresent() && isLater && (next == null || train.leavesBefore(next))) {
                    next = train;
                }
            }
            return next;
        }

        // ---- forecasts

        /** Becomes a copy in which there are no other trains and this one is not held. */
        void copyAlone(Line present, int number) {
            copyFrom(present);
            for (Train train : trains) {
                if (train.number == number) {
                    train.isHeld = false;
                } else {
                    train.place = Place.ABSENT;
                }
            }
            trainCount = 1;
        }

        /** Answers the time at which the train arrives, or NONE; this line goes on until then. */
        int passUntilArrival(int number) {
            for (int minute = 0; minute < PREDICTED_MINUTES; minute++) {
                passMinute();
                if (findTrain(number) == null) {
                    return time;
                }
            }
            return NONE;
        }

        /** Answers how many trains are left in the end; this line goes on until then. */
        int passUntilStuck() {
            for (int minute = 0; minute < PREDICTED_MINUTES && trainCount > 0; minute++) {
                passMinute();
            }
            return trainCount;
        }

        /** Tells whether each train that is yet to depart would arrive as planned if it were alone. */
        boolean confirmsPlansOf(Line present) {
            for (Train train : present.trains) {
                if (present.isYetToDepart(train)) {
                    copyAlone(present, train.number);
                    if (passUntilArrival(train.number) != train.planned) {
                        return false;
                    }
                }
            }
            return true;
        }

        // ---- queries

        boolean hasStation(int station) {
            return station >= 0 && station < stationCount;
        }

        boolean hasSection(int section) {
            return section >= 0 && section < stationCount - 1;
        }

        private static boolean isTrackCount(int trackCount) {
            return trackCount >= 1 && trackCount <= MAX_TRACKS;
        }

        /** Answers null if there is no such train. */
        Train findTrain(int number) {
            for (Train train : trains) {
                if (train.isPresent() && train.number == number) {
                    return train;
                }
            }
            return null;
        }

        /** Answers null if the token is free. */
        Train findHolder(int section) {
            for (Train train : trains) {
                if (train.place == Place.IN_SECTION && train.section == section) {
                    return train;
                }
            }
            return null;
        }

        int countFreeTracks(int station) {
            if (station < 0 || station >= stationCount) {
                return 0;
            }
            int free = tracks[station];
            for (Train train : trains) {
                boolean isThere = train.place == Place.AT_STATION;
                boolean isReserving = train.place == Place.IN_SECTION && train.destination != station;
                if (train.station == station && (isThere || isReserving)) {
                    free--;
                }
            }
            return free;
        }

        int sumRunningTimes(int one, int other) {
            int sum = 0;
            for (int section = Math.min(one, other); section < Math.max(one, other); section++) {
                if (hasSection(section)) {
                    sum += runningTimes[section];
                }
            }
            return sum;
        }

        int subtractPositions(int one, int other) {
            if (!hasStation(one) || !hasStation(other)) {
                return 0;
            }
            return Math.abs(positions[one] - positions[other]);
        }

        boolean isYetToDepart(Train train) {
            return train.place == Place.EXPECTED && train.departure > time;
        }

        int findRank(Train train) {
            int rank = 0;
            for (Train other : trains) {
                if (other.isPresent() && other.ranksBefore(train)) {
                    rank++;
                }
            }
            return rank;
        }

        // ---- invariants

        boolean hasNoOverfullStation() {
            for (int station = 0; station < stationCount; station++) {
                if (countFreeTracks(station) < 0) {
                    return false;
                }
            }
            return true;
        }

        boolean hasNoSharedSection() {
            for (Train train : trains) {
                if (train.place == Place.IN_SECTION && findHolder(train.section) != train) {
                    return false;
                }
            }
            return true;
        }

        boolean hasAgreeingDistances() {
            for (int one = 0; one < stationCount; one++) {
                for (int other = 0; other < stationCount; other++) {
                    if (sumRunningTimes(one, other) != subtractPositions(one, other)) {
                        return false;
                    }
                }
            }
            return true;
        }
    }

    /** The states before the most recent changing calls, in a ring with one place for a call that is going on. */
    private static final class History {
        private final Line[] states = new Line[UNDO_LIMIT + 1];
        private int next;
        int count;

        History() {
            for (int slot = 0; slot <= UNDO_LIMIT; slot++) {
                states[slot] = new Line();
            }
        }

        void note(Line line) {
            states[next].copyFrom(line);
        }

        Line noted() {
            return states[next];
        }

        void keepNoted() {
            next = Math.floorMod(next + 1, UNDO_LIMIT + 1);
            count = Math.min(count + 1, UNDO_LIMIT);
        }

        Line takeLast() {
            next = Math.floorMod(next - 1, UNDO_LIMIT + 1);
            count--;
            return states[next];
        }
    }

    /** The text buffer, and the command in it that was read last. */
    private static final class Program {
        private final char[] text = new char[TEXT_LIMIT];
        private int length;
        private int position;
        int commandCount;
        Command command = Command.WAIT;
        final int[] arguments = new int[MAX_ARGUMENTS];
        private int argumentCount;

        boolean isFull() {
            return length >= TEXT_LIMIT;
        }

        int put(char character) {
            if (!isFull()) {
                text[length] = character;
                length++;
            }
            return length;
        }

        void empty() {
            length = 0;
        }

        void rewind() {
            position = 0;
        }

        /** Answers NONE if the text is a program; then the commands are counted. */
        int findError() {
            rewind();
            commandCount = 0;
            boolean hasMore = true;
            while (hasMore && commandCount < TEXT_LIMIT) {
                if (!readCommand()) {
                    return position;
                }
                commandCount++;
                hasMore = take(SEPARATOR);
            }
            return position < length ? position : NONE;
        }

        void readNextCommand() {
            take(SEPARATOR);
            readCommand();
        }

        /** If there is no command at the position, the position becomes that of the error. */
        private boolean readCommand() {
            int begin = position;
            int furthest = begin;
            for (Command candidate : COMMANDS) {
                position = begin;
                if (follow(candidate.form)) {
                    command = candidate;
                    return true;
                }
                furthest = Math.max(furthest, position);
            }
            position = furthest;
            return false;
        }

        private boolean follow(String form) {
            argumentCount = 0;
            for (int index = 0; index < form.length(); index++) {
                if (!followSign(form.charAt(index))) {
                    return false;
                }
            }
            return true;
        }

        private boolean followSign(char sign) {
            if (sign == DIGIT) {
                return takeNumber(1);
            }
            if (sign == NUMBER) {
                return takeNumber(2);
            }
            return take(sign);
        }

        private boolean takeNumber(int mostDigits) {
            int digits = 0;
            int value = 0;
            while (digits < mostDigits && isAtDigit()) {
                value = value * 10 + (text[position] - '0');
                position++;
                digits++;
            }
            if (digits == 0 || argumentCount >= MAX_ARGUMENTS) {
                return false;
            }
            arguments[argumentCount] = value;
            argumentCount++;
            return true;
        }

        private boolean isAtDigit() {
            return position < length && text[position] >= '0' && text[position] <= '9';
        }

        private boolean take(char sign) {
            if (position >= length || text[position] != sign) {
                return false;
            }
            position++;
            return true;
        }
    }
}
