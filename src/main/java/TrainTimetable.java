import java.util.Arrays;
import java.util.NoSuchElementException;

/**
 * A timetable of a railway line, as the document describes it: it plans, predicts delays, finds the
 * best overtaking and distributes supplements of running time.
 *
 * <p>All rows are made once, in the constructors, because all calls of a run share one room. All
 * numbers of stations, trains, connections and segments are below 8, so a row has 8, 64 or 128
 * elements, and indices are masked where they are formed: no number can lead out of a row.
 */
public final class TrainTimetable {
    public static final int NONE = -1;

    private static final int MAX_TEXT = 500;
    private static final int APPENDED_BYTES = 20;
    private static final int MAX_STATIONS = 8;
    private static final int MAX_TRAINS = 8;
    private static final int MAX_CONNECTIONS = 8;
    private static final int MAX_DISTURBANCES = 20;
    private static final int MAX_MINUTES_OF_DISTURBANCE = 120;
    private static final int MAX_SUPPLEMENT = 9;
    private static final int MAX_THRESHOLD = 120;
    private static final int MAX_TOLERANCE = 60;
    private static final int MAX_DISTRIBUTED = 5;
    private static final int MAX_OVERTAKINGS = 20;

    /** Far above the 462 ways to distribute 5 minutes over 7 segments. */
    private static final int MAX_DISTRIBUTIONS = 1000;

    private static final int MASK = 7;
    private static final int ROW = 8;
    private static final int CELLS = 64;
    private static final int EVENTS = 128;

    /** What Line.of() tells of a train, numbered as in train(). */
    private static final int FIRST = 0;
    private static final int LAST = 1;
    private static final int START = 2;
    private static final int PACE = 3;
    private static final int DWELL = 4;
    private static final int SUPPLEMENTS = 5;

    /** What Line.link() tells of a connection, in the order of the text. */
    private static final int FROM = 0;
    private static final int TO = 1;
    private static final int WHERE = 2;
    private static final int MINUTES = 3;

    private final Parser parser;
    private final Line line;
    private final Orders plannedOrders;
    private final Orders actualOrders;
    private final Schedule planTimes;
    private final Schedule actualTimes;
    private final Schedule trialTimes;
    private final Distribution distribution;
    private int disturbances;

    public TrainTimetable() {
        parser = new Parser();
        line = new Line();
        plannedOrders = new Orders(line);
        actualOrders = new Orders(line);
        planTimes = new Schedule(line, plannedOrders, new int[EVENTS], true);
        actualTimes = new Schedule(line, actualOrders, planTimes.times, false);
        trialTimes = new Schedule(line, plannedOrders, planTimes.times, false);
        distribution = new Distribution();
    }

    // ---- the text

    public int append(int a, int b, int c, int d, int e) throws IllegalStateException {
        Tokens text = parser.tokens;
        if (text.length > MAX_TEXT - APPENDED_BYTES) {
            throw new IllegalStateException("the text would be too long");
        }
        text.addBytes(a);
        text.addBytes(b);
        text.addBytes(c);
        text.addBytes(d);
        text.addBytes(e);
        return text.length;
    }

    public int truncate(int length) throws IndexOutOfBoundsException {
        if (length < 0 || length > parser.tokens.length) {
            throw new IndexOutOfBoundsException("no such length");
        }
        parser.tokens.length = length;
        return length;
    }

    public int load() throws IllegalArgumentException {
        boolean isRight = parser.parse();
        parser.tokens.length = 0;
        if (!isRight) {
            throw new IllegalArgumentException("the text has an error");
        }
        line.copyFrom(parser.draft);
        beginAnew();
        return line.trains;
    }

    public int errorCode() {
        return parser.tokens.errorCode;
    }

    public int errorPosition() {
        return parser.tokens.errorPosition;
    }

    // ---- reports

    public int count(int what) throws IllegalArgumentException {
        switch (what) {
            case 0: return line.stations;
            case 1: return line.trains;
            case 2: return line.connections;
            case 3: return disturbances;
            case 4: return line.headway;
            case 5: return line.waiting;
            default: throw new IllegalArgumentException("no such thing to count");
        }
    }

    public boolean isSiding(int station) throws IndexOutOfBoundsException {
        requireStation(station);
        return line.hasSiding(station);
    }

    public int train(int train, int what) throws IndexOutOfBoundsException, IllegalArgumentException {
        requireTrain(train);
        if (what < FIRST || what > SUPPLEMENTS) {
            throw new IllegalArgumentException("no such report");
        }
        return what == SUPPLEMENTS ? sumOfSupplements(train) : line.of(train, what);
    }

    public int order(boolean isActual, int segment, int index) throws IndexOutOfBoundsException {
        if (segment < 0 || segment >= line.stations - 1 || index < 0 || index >= line.trains) {
            throw new IndexOutOfBoundsException("no such segment or index");
        }
        return isActual ? actualOrders.at(segment, index) : plannedOrders.at(segment, index);
    }

    // ---- the plan

    public int planned(int train, int station, boolean isArrival)
            throws IndexOutOfBoundsException, NoSuchElementException {
        requireEvent(train, station, isArrival);
        return planTimes.time(train, station, isArrival);
    }

    public int plan(int station, int a, int b) throws IndexOutOfBoundsException, IllegalStateException {
        requireOvertaking(plannedOrders, station, a, b);
        plannedOrders.pass(station, a, b);
        actualOrders.copyFrom(plannedOrders);
        planTimes.compute();
        actualTimes.compute();
        return planTimes.lastTime(b);
    }

    public int setSupplement(int train, int segment, int minutes)
            throws IndexOutOfBoundsException, IllegalArgumentException {
        requireRun(train, segment);
        if (minutes < 0 || minutes > MAX_SUPPLEMENT) {
            throw new IllegalArgumentException("no such supplement");
        }
        int previous = planTimes.extra(train, segment + 1, true);
        planTimes.setExtra(train, segment + 1, true, minutes);
        planTimes.compute();
        actualTimes.compute();
        return previous;
    }

    public int supplement(int train, int segment) throws IndexOutOfBoundsException {
        requireRun(train, segment);
        return planTimes.extra(train, segment + 1, true);
    }

    public int buffer(int train, int segment) throws IndexOutOfBoundsException, NoSuchElementException {
        requireRun(train, segment);
        int ahead = plannedOrders.ahead(train, segment);
        if (ahead == NONE) {
            throw new NoSuchElementException("no train is before it");
        }
        return planTimes.time(train, segment, false) - planTimes.time(ahead, segment, false) - line.headway;
    }

    public double speed(int train) throws IndexOutOfBoundsException {
        requireTrain(train);
        int minutes = planTimes.lastTime(train) - planTimes.time(train, line.of(train, FIRST), false);
        return minutes > 0 ? (double) line.distance(train) / (double) minutes : 0.0;
    }

    public int lastArrival() throws NoSuchElementException {
        if (line.trains == 0) {
            throw new NoSuchElementException("there is no train");
        }
        int latest = 0;
        for (int train = 0; train < line.trains; train++) {
            latest = Math.max(latest, planTimes.lastTime(train));
        }
        return latest;
    }

    // ---- delays

    public int disturb(int train, int station, boolean isArrival, int minutes)
            throws IndexOutOfBoundsException, IllegalArgumentException, NoSuchElementException,
                    IllegalStateException {
        // Tested before the minutes, because a wrong index is thrown first, and a missing event later.
        requireTrain(train);
        requireStation(station);
        if (minutes < 1 || minutes > MAX_MINUTES_OF_DISTURBANCE) {
            throw new IllegalArgumentException("no such disturbance");
        }
        requireEvent(train, station, isArrival);
        if (disturbances >= MAX_DISTURBANCES) {
            throw new IllegalStateException("too many disturbances");
        }
        int extra = actualTimes.extra(train, station, isArrival);
        actualTimes.setExtra(train, station, isArrival, extra + minutes);
        actualTimes.compute();
        disturbances++;
        return disturbances;
    }

    public int clear() {
        int removed = disturbances;
        disturbances = 0;
        actualTimes.clearExtras();
        actualOrders.copyFrom(plannedOrders);
        actualTimes.compute();
        return removed;
    }

    public int actual(int train, int station, boolean isArrival)
            throws IndexOutOfBoundsException, NoSuchElementException {
        requireEvent(train, station, isArrival);
        return actualTimes.time(train, station, isArrival);
    }

    public int totalDelay() {
        return actualTimes.sumOfDelays();
    }

    public int lateTrains() {
        return actualTimes.lateSet(0);
    }

    public double punctuality(int threshold) throws IllegalArgumentException, NoSuchElementException {
        if (threshold < 0 || threshold > MAX_THRESHOLD) {
            throw new IllegalArgumentException("no such threshold");
        }
        if (line.trains == 0) {
            throw new NoSuchElementException("there is no train");
        }
        int punctual = line.trains - Integer.bitCount(actualTimes.lateSet(threshold));
        return (double) punctual / (double) line.trains;
    }

    public boolean isKept(int connection) throws IndexOutOfBoundsException {
        if (connection < 0 || connection >= line.connections) {
            throw new IndexOutOfBoundsException("no such connection");
        }
        return actualTimes.keeps(connection);
    }

    public int missed() {
        int number = 0;
        for (int connection = 0; connection < line.connections; connection++) {
            if (!actualTimes.keeps(connection)) {
                number++;
            }
        }
        return number;
    }

    public int cause(int train, int station, boolean isArrival)
            throws IndexOutOfBoundsException, NoSuchElementException {
        requireEvent(train, station, isArrival);
        return actualTimes.reason(train, station, isArrival);
    }

    public int recovery() {
        return actualTimes.lastDelayedTime() + 1;
    }

    // ---- decisions

    public int overtake(int station, int a, int b) throws IndexOutOfBoundsException, IllegalStateException {
        requireOvertaking(actualOrders, station, a, b);
        actualOrders.pass(station, a, b);
        actualTimes.compute();
        return actualTimes.sumOfDelays();
    }

    public int bestOvertaking() {
        return findBest();
    }

    public int dispatch() {
        for (int number = 0; number < MAX_OVERTAKINGS; number++) {
            int best = findBest();
            if (best == NONE) {
                return number;
            }
            actualOrders.pass(best / 100, best / 10 % 10, best % 10);
            actualTimes.compute();
        }
        return MAX_OVERTAKINGS;
    }

    public int tolerance(int train, int station) throws IndexOutOfBoundsException, NoSuchElementException {
        requireEvent(train, station, false);
        int minutes = MAX_TOLERANCE + 1;
        boolean isLate = true;
        // From above, because a longer disturbance may miss a connection that a shorter one delays.
        while (isLate && minutes > 0) {
            minutes--;
            trialTimes.setExtra(train, station, false, minutes);
            trialTimes.compute();
            isLate = trialTimes.lateSet(0) != 0;
        }
        trialTimes.setExtra(train, station, false, 0);
        return minutes;
    }

    public int leastDelay(int train, int minutes) throws IndexOutOfBoundsException, IllegalArgumentException {
        requireDistribution(train, minutes);
        takeSupplements(train, distribution.saved);
        int least = findLeast(train, minutes);
        putSupplements(train, distribution.saved);
        planTimes.compute();
        actualTimes.compute();
        return least;
    }

    public int distribute(int train, int minutes) throws IndexOutOfBoundsException, IllegalArgumentException {
        requireDistribution(train, minutes);
        int least = findLeast(train, minutes);
        putSupplements(train, distribution.best);
        planTimes.compute();
        actualTimes.compute();
        return least;
    }

    // ---- what the calls require

    private void requireTrain(int train) {
        if (train < 0 || train >= line.trains) {
            throw new IndexOutOfBoundsException("no such train");
        }
    }

    private void requireStation(int station) {
        if (station < 0 || station >= line.stations) {
            throw new IndexOutOfBoundsException("no such station");
        }
    }

    private void requireEvent(int train, int station, boolean isArrival) {
        requireTrain(train);
        requireStation(station);
        if (!line.hasEvent(train, station, isArrival)) {
            throw new NoSuchElementException("the train has no such event there");
        }
    }

    private void requireRun(int train, int segment) {
        requireTrain(train);
        if (!line.departs(train, segment)) {
            throw new IndexOutOfBoundsException("the train does not run there");
        }
    }

    private void requireOvertaking(Orders orders, int station, int a, int b) {
        requireStation(station);
        if (station == line.stations - 1) {
            throw new IndexOutOfBoundsException("the last station");
        }
        requireTrain(a);
        requireTrain(b);
        if (!orders.canPass(station, a, b)) {
            throw new IllegalStateException("it cannot overtake there");
        }
    }

    private void requireDistribution(int train, int minutes) {
        requireTrain(train);
        if (minutes < 0 || minutes > MAX_DISTRIBUTED) {
            throw new IllegalArgumentException("no such sum of supplements");
        }
    }

    // ---- what the calls share

    private static int cell(int row, int column) {
        return (row & MASK) * ROW + (column & MASK);
    }

    private static int event(int train, int station, boolean isArrival) {
        return cell(train, station) + (isArrival ? CELLS : 0);
    }

    private void beginAnew() {
        disturbances = 0;
        plannedOrders.sortByStart();
        actualOrders.copyFrom(plannedOrders);
        planTimes.clearExtras();
        actualTimes.clearExtras();
        for (int train = 0; train < line.trains; train++) {
            planTimes.setEarliest(train, line.of(train, START));
        }
        planTimes.compute();
        actualTimes.compute();
    }

    private int sumOfSupplements(int train) {
        int sum = 0;
        for (int segment = 0; segment < line.stations - 1; segment++) {
            sum += planTimes.extra(train, segment + 1, true);
        }
        return sum;
    }

    /** The best actual overtaking as bestOvertaking() reports it; the orders are as before then. */
    private int findBest() {
        int least = actualTimes.sumOfDelays();
        int best = NONE;
        if (least == 0) {
            return NONE;
        }
        for (int station = 0; station < line.stations - 1; station++) {
            for (int a = 0; a < line.trains; a++) {
                for (int b = 0; b < line.trains; b++) {
                    if (!actualOrders.canPass(station, a, b)) {
                        continue;
                    }
                    actualOrders.pass(station, a, b);
                    actualTimes.compute();
                    int delay = actualTimes.sumOfDelays();
                    if (delay < least) {
                        least = delay;
                        best = 100 * station + 10 * a + b;
                    }
                    actualOrders.pass(station, b, a);
                }
            }
        }
        actualTimes.compute();
        return best;
    }

    /** Leaves the best distribution in distribution.best; the supplements are any ones then. */
    private int findLeast(int train, int minutes) {
        int least = NONE;
        boolean goesOn = true;
        distribution.begin(line.of(train, LAST) - line.of(train, FIRST), minutes);
        for (int i = 0; i < MAX_DISTRIBUTIONS && goesOn; i++) {
            putSupplements(train, distribution.parts);
            planTimes.compute();
            actualTimes.compute();
            int delay = actualTimes.sumOfDelays();
            if (least == NONE || delay < least) {
                least = delay;
                distribution.keepAsBest();
            }
            // No delay is less than 0, and the ways come in the order in which they are preferred.
            goesOn = least > 0 && distribution.advance();
        }
        return least;
    }

    /** The row begins with the train's first segment. */
    private void putSupplements(int train, int[] row) {
        int first = line.of(train, FIRST);
        for (int i = 0; i < row.length && first + i < line.of(train, LAST); i++) {
            planTimes.setExtra(train, first + i + 1, true, row[i]);
        }
    }

    private void takeSupplements(int train, int[] row) {
        int first = line.of(train, FIRST);
        for (int i = 0; i < row.length && first + i < line.of(train, LAST); i++) {
            row[i] = planTimes.extra(train, first + i + 1, true);
        }
    }

    /** What a text tells: stations, settings, trains and connections. */
    private static final class Line {
        int stations;
        int trains;
        int connections;
        int headway;
        int waiting;
        private int sidings;
        private final int[] lengths;
        private final int[] ofTrains;
        private final int[] ofConnections;

        /** The line of a new timetable: "line siding 1 siding;". */
        Line() {
            lengths = new int[ROW];
            ofTrains = new int[CELLS];
            ofConnections = new int[CELLS];
            stations = 2;
            sidings = 3;
            lengths[0] = 1;
            headway = 3;
            waiting = 5;
        }

        void copyFrom(Line other) {
            stations = other.stations;
            trains = other.trains;
            connections = other.connections;
            headway = other.headway;
            waiting = other.waiting;
            sidings = other.sidings;
            System.arraycopy(other.lengths, 0, lengths, 0, ROW);
            System.arraycopy(other.ofTrains, 0, ofTrains, 0, CELLS);
            System.arraycopy(other.ofConnections, 0, ofConnections, 0, CELLS);
        }

        /** As in a text that has only said "line". */
        void reset() {
            stations = 0;
            trains = 0;
            connections = 0;
            headway = 3;
            waiting = 5;
            sidings = 0;
        }

        void addStation(boolean isSiding) {
            if (isSiding) {
                sidings |= 1 << stations;
            }
            stations++;
        }

        void setLength(int segment, int length) {
            lengths[segment & MASK] = length;
        }

        void setOf(int train, int what, int value) {
            ofTrains[cell(train, what)] = value;
        }

        void setLink(int connection, int what, int value) {
            ofConnections[cell(connection, what)] = value;
        }

        boolean hasSiding(int station) {
            return (sidings >> station & 1) != 0;
        }

        int of(int train, int what) {
            return ofTrains[cell(train, what)];
        }

        int link(int connection, int what) {
            return ofConnections[cell(connection, what)];
        }

        /** A train runs over a segment just if it departs from the station of the same number. */
        boolean departs(int train, int station) {
            return station >= of(train, FIRST) && station < of(train, LAST);
        }

        boolean arrives(int train, int station) {
            return station > of(train, FIRST) && station <= of(train, LAST);
        }

        boolean hasEvent(int train, int station, boolean isArrival) {
            return isArrival ? arrives(train, station) : departs(train, station);
        }

        int runningTime(int train, int segment) {
            return lengths[segment & MASK] * of(train, PACE);
        }

        int distance(int train) {
            int sum = 0;
            for (int segment = 0; segment < stations - 1; segment++) {
                if (departs(train, segment)) {
                    sum += lengths[segment & MASK];
                }
            }
            return sum;
        }
    }

    /** The orders of all segments, planned or actual. */
    private static final class Orders {
        private final Line line;
        private final int[] sequences;
        private final int[] aheads;

        Orders(Line line) {
            this.line = line;
            sequences = new int[CELLS];
            aheads = new int[CELLS];
        }

        void sortByStart() {
            for (int train = 0; train < line.trains; train++) {
                int index = indexByStart(train);
                for (int segment = 0; segment < line.stations - 1; segment++) {
                    sequences[cell(segment, index)] = train;
                }
            }
            findAheads();
        }

        private int indexByStart(int train) {
            int start = line.of(train, START);
            int index = 0;
            for (int other = 0; other < line.trains; other++) {
                int otherStart = line.of(other, START);
                if (otherStart < start || otherStart == start && other < train) {
                    index++;
                }
            }
            return index;
        }

        void copyFrom(Orders other) {
            System.arraycopy(other.sequences, 0, sequences, 0, CELLS);
            System.arraycopy(other.aheads, 0, aheads, 0, CELLS);
        }

        int at(int segment, int index) {
            return sequences[cell(segment, index)];
        }

        /** The next train before this one among those that run over the segment, or NONE. */
        int ahead(int train, int segment) {
            return aheads[cell(segment, train)];
        }

        boolean canPass(int station, int a, int b) {
            if (!line.hasSiding(station)) {
                return false;
            }
            for (int segment = station; segment < line.stations - 1; segment++) {
                if (indexBefore(segment, a, b) == NONE) {
                    return false;
                }
            }
            return true;
        }

        /** Only for trains of which canPass() is true. */
        void pass(int station, int a, int b) {
            for (int segment = station; segment < line.stations - 1; segment++) {
                int index = indexBefore(segment, a, b);
                if (index != NONE) {
                    sequences[cell(segment, index)] = b;
                    sequences[cell(segment, index + 1)] = a;
                }
            }
            findAheads();
        }

        /** The index of a in the order of a segment if b is directly behind it, else NONE. */
        private int indexBefore(int segment, int a, int b) {
            for (int index = 0; index < line.trains - 1; index++) {
                if (at(segment, index) == a && at(segment, index + 1) == b) {
                    return index;
                }
            }
            return NONE;
        }

        private void findAheads() {
            for (int segment = 0; segment < line.stations - 1; segment++) {
                int ahead = NONE;
                for (int index = 0; index < line.trains; index++) {
                    int train = at(segment, index);
                    aheads[cell(segment, train)] = ahead;
                    if (line.departs(train, segment)) {
                        ahead = train;
                    }
                }
            }
        }
    }

    /**
     * The least times for which all constraints hold: those of the plan, or the actual ones.
     *
     * <p>The two differ in what no event may be before (the floors: the start time, or the planned
     * times), in what is added to running and dwell times (the extras: supplements, or disturbances)
     * and in whether a connection can be missed.
     */
    private static final class Schedule {
        final int[] times;
        private final Line line;
        private final Orders orders;
        private final int[] floors;
        private final int[] extras;
        private final boolean isPlan;

        Schedule(Line line, Orders orders, int[] floors, boolean isPlan) {
            this.line = line;
            this.orders = orders;
            this.floors = floors;
            this.isPlan = isPlan;
            times = new int[EVENTS];
            extras = new int[EVENTS];
        }

        int time(int train, int station, boolean isArrival) {
            return times[event(train, station, isArrival)];
        }

        int lastTime(int train) {
            return times[event(train, line.of(train, LAST), true)];
        }

        int extra(int train, int station, boolean isArrival) {
            return extras[event(train, station, isArrival)];
        }

        void setExtra(int train, int station, boolean isArrival, int minutes) {
            extras[event(train, station, isArrival)] = minutes;
        }

        void clearExtras() {
            Arrays.fill(extras, 0);
        }

        /** Only for the plan: other events need no floor, since each is behind the first departure. */
        void setEarliest(int train, int start) {
            for (int station = 0; station < MAX_STATIONS; station++) {
                floors[event(train, station, false)] = 0;
            }
            floors[event(train, line.of(train, FIRST), false)] = start;
        }

        /**
         * Takes the events in an order in which each is behind all that it depends on. At a station
         * with a siding, departures may depend on all arrivals (connections), but no arrival on a
         * departure. At a plain station, an arrival depends on the departure of the train before;
         * there both segments have the same order, since nobody overtakes.
         */
        void compute() {
            int segments = line.stations - 1;
            for (int station = 0; station <= segments; station++) {
                int before = Math.max(station - 1, 0);
                boolean isSiding = line.hasSiding(station);
                for (int index = 0; index < line.trains; index++) {
                    int train = orders.at(before, index);
                    settle(train, station, true);
                    if (!isSiding) {
                        settle(train, station, false);
                    }
                }
                // No segment leads on from the last station, so there is no order to take there.
                for (int index = 0; isSiding && station < segments && index < line.trains; index++) {
                    settle(orders.at(station, index), station, false);
                }
            }
        }

        private void settle(int train, int station, boolean isArrival) {
            if (!line.hasEvent(train, station, isArrival)) {
                return;
            }
            int event = event(train, station, isArrival);
            int time = Math.max(floors[event], afterItself(train, station, isArrival));
            time = Math.max(time, afterHeadway(train, station, isArrival));
            int other = isArrival ? afterPlainStation(train, station) : afterConnections(train, station);
            times[event] = Math.max(time, other);
        }

        /** (1) with an extra, (2) and (3). */
        private int afterItself(int train, int station, boolean isArrival) {
            int event = event(train, station, isArrival);
            if (isArrival) {
                int departure = time(train, station - 1, false);
                return departure + line.runningTime(train, station - 1) + extras[event];
            }
            if (station == line.of(train, FIRST)) {
                return floors[event] + extras[event];
            }
            return time(train, station, true) + line.of(train, DWELL) + extras[event];
        }

        /** (4); NONE if no train is ahead. */
        private int afterHeadway(int train, int station, boolean isArrival) {
            int ahead = orders.ahead(train, isArrival ? station - 1 : station);
            return ahead == NONE ? NONE : time(ahead, station, isArrival) + line.headway;
        }

        /** (5), for an arrival; NONE if it says nothing there. */
        private int afterPlainStation(int train, int station) {
            int ahead = orders.ahead(train, station - 1);
            if (line.hasSiding(station) || ahead == NONE || !line.departs(ahead, station)) {
                return NONE;
            }
            return time(ahead, station, false) + line.headway;
        }

        /** (6), for a departure; NONE if no train is waited for. */
        private int afterConnections(int train, int station) {
            int latest = NONE;
            for (int connection = 0; connection < line.connections; connection++) {
                if (line.link(connection, TO) == train && line.link(connection, WHERE) == station) {
                    int time = changeTime(connection);
                    if (waits(train, station, time)) {
                        latest = Math.max(latest, time);
                    }
                }
            }
            return latest;
        }

        /** When the passengers of a connection have changed trains. */
        private int changeTime(int connection) {
            int event = event(line.link(connection, FROM), line.link(connection, WHERE), true);
            return times[event] + line.link(connection, MINUTES);
        }

        /** Whether a train waits for passengers who have changed to it at a time. */
        private boolean waits(int train, int station, int time) {
            return isPlan || time <= floors[event(train, station, false)] + line.waiting;
        }

        boolean keeps(int connection) {
            int train = line.link(connection, TO);
            return waits(train, line.link(connection, WHERE), changeTime(connection));
        }

        private int delay(int train, int station, boolean isArrival) {
            int event = event(train, station, isArrival);
            return times[event] - floors[event];
        }

        int sumOfDelays() {
            int sum = 0;
            for (int train = 0; train < line.trains; train++) {
                for (int station = 0; station < line.stations; station++) {
                    if (line.arrives(train, station)) {
                        sum += delay(train, station, true);
                    }
                }
            }
            return sum;
        }

        /** The bit set of the trains that are later than a threshold at their last stations. */
        int lateSet(int threshold) {
            int set = 0;
            for (int train = 0; train < line.trains; train++) {
                if (delay(train, line.of(train, LAST), true) > threshold) {
                    set |= 1 << train;
                }
            }
            return set;
        }

        /** The greatest time of a delayed event; NONE if no event is delayed. */
        int lastDelayedTime() {
            int latest = NONE;
            for (int train = 0; train < line.trains; train++) {
                for (int station = 0; station < line.stations; station++) {
                    if (line.departs(train, station) && delay(train, station, false) > 0) {
                        latest = Math.max(latest, time(train, station, false));
                    }
                    if (line.arrives(train, station) && delay(train, station, true) > 0) {
                        latest = Math.max(latest, time(train, station, true));
                    }
                }
            }
            return latest;
        }

        /** As cause(); one of the constraints binds, since the times are the least ones. */
        int reason(int train, int station, boolean isArrival) {
            int time = time(train, station, isArrival);
            if (delay(train, station, isArrival) == 0) {
                return 0;
            }
            if (time == afterItself(train, station, isArrival)) {
                return 1;
            }
            if (time == afterHeadway(train, station, isArrival)) {
                return 2;
            }
            return isArrival ? 3 : 4;
        }
    }

    /** All ways to distribute minutes over some segments, those with the most on the first one first. */
    private static final class Distribution {
        final int[] parts;
        final int[] best;
        final int[] saved;
        private int segments;

        Distribution() {
            parts = new int[ROW];
            best = new int[ROW];
            saved = new int[ROW];
        }

        void begin(int numberOfSegments, int minutes) {
            segments = Math.min(numberOfSegments, ROW);
            Arrays.fill(parts, 0);
            parts[0] = minutes;
        }

        void keepAsBest() {
            System.arraycopy(parts, 0, best, 0, ROW);
        }

        /** Goes on to the next way; false if there is none. */
        boolean advance() {
            int last = (segments - 1) & MASK;
            int rest = parts[last];
            for (int i = last - 1; i >= 0; i--) {
                if (parts[i] > 0) {
                    parts[last] = 0;
                    parts[i]--;
                    parts[i + 1] = rest + 1;
                    return true;
                }
            }
            return false;
        }
    }

    /** The text buffer and its tokens, read one by one up to the first error. */
    private static final class Tokens {
        private static final int END = 0;
        private static final int WORD = 1;
        private static final int NUMBER = 2;
        private static final int SEMICOLON = 3;
        private static final int WRONG = 4;
        private static final int MAX_DIGITS = 4;

        int length;
        int errorCode;
        int errorPosition;
        private final byte[] bytes;
        private int kind;
        private int start;
        private int end;
        private int startOfTaken;

        Tokens() {
            bytes = new byte[MAX_TEXT];
            errorPosition = NONE;
        }

        /** The four bytes of a number, the most significant one first. */
        void addBytes(int four) {
            for (int shift = 24; shift >= 0 && length < MAX_TEXT; shift -= 8) {
                bytes[length] = (byte) (four >> shift);
                length++;
            }
        }

        void begin() {
            errorCode = 0;
            errorPosition = NONE;
            end = 0;
            take();
        }

        private int byteAt(int position) {
            return position >= 0 && position < length && position < MAX_TEXT ? bytes[position] & 255 : NONE;
        }

        private static boolean isBlank(int sign) {
            return sign == 10 || sign == 32;
        }

        private static boolean isLetter(int sign) {
            return sign >= 'a' && sign <= 'z';
        }

        private static boolean isDigit(int sign) {
            return sign >= '0' && sign <= '9';
        }

        /** Leaves the present token and finds the next one. */
        private void take() {
            startOfTaken = start;
            start = end;
            while (start < length && isBlank(byteAt(start))) {
                start++;
            }
            end = start;
            if (start >= length) {
                kind = END;
            } else if (isLetter(byteAt(start))) {
                kind = WORD;
                while (end < length && isLetter(byteAt(end))) {
                    end++;
                }
            } else if (isDigit(byteAt(start))) {
                while (end < length && isDigit(byteAt(end))) {
                    end++;
                }
                kind = end - start > MAX_DIGITS ? WRONG : NUMBER;
            } else {
                kind = byteAt(start) == ';' ? SEMICOLON : WRONG;
                end = start + 1;
            }
        }

        /** Only the first error counts; nothing is taken behind it. */
        void fail(int code) {
            failAt(start, code);
        }

        void failAtTaken(int code) {
            failAt(startOfTaken, code);
        }

        private void failAt(int position, int code) {
            if (errorCode == 0) {
                errorCode = code;
                errorPosition = position;
            }
        }

        boolean isWord(String word) {
            if (errorCode != 0 || kind != WORD || end - start != word.length()) {
                return false;
            }
            for (int i = 0; i < word.length(); i++) {
                if (byteAt(start + i) != word.charAt(i)) {
                    return false;
                }
            }
            return true;
        }

        boolean isNumber() {
            return errorCode == 0 && kind == NUMBER;
        }

        boolean takesWord(String word) {
            boolean isThere = isWord(word);
            if (isThere) {
                take();
            }
            return isThere;
        }

        void needWord(String word) {
            if (!takesWord(word)) {
                fail(1);
            }
        }

        /** A number from low to high; 0 if there is an error. */
        int needNumber(int low, int high) {
            if (!isNumber()) {
                fail(1);
                return 0;
            }
            int value = 0;
            for (int i = start; i < end; i++) {
                value = 10 * value + byteAt(i) - '0';
            }
            if (value < low || value > high) {
                fail(2);
                return 0;
            }
            take();
            return value;
        }

        void needSemicolon() {
            if (errorCode == 0 && kind == SEMICOLON) {
                take();
            } else {
                fail(1);
            }
        }

        void needEnd() {
            if (kind != END) {
                fail(1);
            }
        }
    }

    /** Reads the text into a draft of a line. */
    private static final class Parser {
        final Tokens tokens;
        final Line draft;

        Parser() {
            tokens = new Tokens();
            draft = new Line();
        }

        /** Whether the text has no error; else the tokens know the error, and the draft is of no use. */
        boolean parse() {
            tokens.begin();
            draft.reset();
            parseStations();
            parseSettings();
            parseTrains();
            parseConnections();
            tokens.needEnd();
            return tokens.errorCode == 0;
        }

        private void parseStations() {
            tokens.needWord("line");
            parseKind();
            draft.setLength(0, tokens.needNumber(1, 60));
            parseKind();
            for (int segment = 1; segment < MAX_STATIONS - 1 && tokens.isNumber(); segment++) {
                draft.setLength(segment, tokens.needNumber(1, 60));
                parseKind();
            }
            if (tokens.isNumber()) {
                // Taken first, because it may be out of range, too, and that has the lower code.
                tokens.needNumber(1, 60);
                tokens.failAtTaken(5);
            }
            tokens.needSemicolon();
        }

        private void parseKind() {
            boolean isSiding = tokens.takesWord("siding");
            if (!isSiding) {
                tokens.needWord("plain");
            }
            draft.addStation(isSiding);
        }

        private void parseSettings() {
            boolean hasHeadway = false;
            boolean hasWait = false;
            // Two settings are right, the third one is an error.
            for (int i = 0; i < 3; i++) {
                if (tokens.isWord("headway")) {
                    parseSettingWord("headway", hasHeadway);
                    hasHeadway = true;
                    draft.headway = tokens.needNumber(1, 20);
                    tokens.needSemicolon();
                } else if (tokens.isWord("wait")) {
                    parseSettingWord("wait", hasWait);
                    hasWait = true;
                    draft.waiting = tokens.needNumber(0, 60);
                    tokens.needSemicolon();
                }
            }
        }

        private void parseSettingWord(String word, boolean isRepeated) {
            if (isRepeated) {
                tokens.fail(3);
            }
            tokens.needWord(word);
        }

        private void parseTrains() {
            for (int train = 0; train < MAX_TRAINS && tokens.takesWord("train"); train++) {
                int first = tokens.needNumber(0, draft.stations - 1);
                draft.setOf(train, FIRST, first);
                draft.setOf(train, LAST, tokens.needNumber(first + 1, draft.stations - 1));
                draft.setOf(train, START, tokens.needNumber(0, 1000));
                draft.setOf(train, PACE, tokens.needNumber(1, 5));
                draft.setOf(train, DWELL, tokens.needNumber(0, 20));
                tokens.needSemicolon();
                draft.trains = train + 1;
            }
            if (tokens.isWord("train")) {
                tokens.fail(5);
            }
        }

        private void parseConnections() {
            for (int i = 0; i < MAX_CONNECTIONS && tokens.takesWord("connect"); i++) {
                parseConnection(i);
                draft.connections = i + 1;
            }
            if (tokens.isWord("connect")) {
                tokens.fail(5);
            }
        }

        private void parseConnection(int connection) {
            int from = tokens.needNumber(0, draft.trains - 1);
            int to = tokens.needNumber(0, draft.trains - 1);
            if (from == to) {
                tokens.failAtTaken(4);
            }
            int station = tokens.needNumber(0, draft.stations - 1);
            if (!draft.hasSiding(station) || !draft.arrives(from, station) || !draft.departs(to, station)) {
                tokens.failAtTaken(4);
            }
            draft.setLink(connection, FROM, from);
            draft.setLink(connection, TO, to);
            draft.setLink(connection, WHERE, station);
            draft.setLink(connection, MINUTES, tokens.needNumber(0, 30));
            tokens.needSemicolon();
        }
    }
}
