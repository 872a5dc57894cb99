/** The boundary cases of promises 18 to 27, a test for each sentence. */
public final class DelayEdgesTest {
    private static final int LEAST = Integer.MIN_VALUE;
    private static final int GREATEST = Integer.MAX_VALUE;

    /** One train that runs from station 1 to station 3 of the stations 0 to 4. */
    private static final String INSIDE = "line siding 10 siding 10 siding 10 siding 10 siding;train 1 3 0 1 0;";
    private static final String ONE = "line siding 10 siding 10 siding;train 0 2 0 1 0;";
    private static final String PLAIN = "line siding 10 plain 10 siding;headway 5;train 0 2 0 1 0;train 0 2 5 1 0;";
    /** Train 0 arrives at 10; train 1 is planned to depart at 12. */
    private static final String CONNECTED = "line siding 10 siding 10 siding;headway 1;"
            + "train 0 1 0 1 0;train 1 2 0 1 0;connect 0 1 1 2;";

    private static final Edges edges = new Edges(18, 27);

    public static void main(String[] args) {
        minutesOfDisturbance();
        numberOfDisturbances();
        extras();
        disturbNoTrainOrStation();
        disturbForNoMinutes();
        disturbNoEvent();
        disturbTooOften();
        clearAll();
        cleared();
        notBeforeThePlan();
        withoutTheSupplement();
        dwellAndExtra();
        actualOrders();
        actualOfNoTrainOrStation();
        actualOfNoEvent();
        totalDelay();
        lateTrains();
        bitsOfTrains();
        thresholds();
        punctuality();
        punctualityOfNoThreshold();
        punctualityOfNoTrain();
        keptOrMissed();
        isKeptOfNoConnection();
        missed();
        causeIsTheLowest();
        causes();
        causeOfNoTrainOrStation();
        causeOfNoEvent();
        recovery();
        nothingToRecover();
        edges.end();
    }

    private static void actualTimes(TrainTimetable x, int train, int... want) {
        PlanTest.times(edges, x, true, train, want);
    }

    // ---- promise 18

    private static void minutesOfDisturbance() {
        edges.promise(18, "- `minutes`: 1 to 120");
        for (int minutes : new int[] {1, 2, 119, 120}) {
            TrainTimetable x = Check.loaded(ONE);
            edges.due("minutes " + minutes, 1, () -> x.disturb(0, 0, false, minutes));
            edges.due("the departure", minutes, () -> x.actual(0, 0, false));
            edges.due("the arrival", minutes + 20, () -> x.actual(0, 2, true));
        }
    }

    private static void numberOfDisturbances() {
        edges.promise(18, "Returns the number of disturbances.");
        TrainTimetable x = Check.loaded(INSIDE);
        for (int i = 1; i <= 20; i++) {
            int number = i;
            edges.due("disturbance " + i, number, () -> x.disturb(0, 2, number % 2 == 0, 1));
        }
        x.clear();
        edges.due("the first one after clear", 1, () -> x.disturb(0, 2, true, 1));
    }

    private static void extras() {
        edges.ground(18, "the extra of an event is the sum of the minutes of its disturbances.");
        TrainTimetable x = Check.loaded(ONE);
        for (int i = 1; i <= 20; i++) {
            int number = i;
            x.disturb(0, 1, true, 120);
            edges.due(i + " disturbances", 10 + 120 * number, () -> x.actual(0, 1, true));
        }
        actualTimes(x, 0, 0, 2410, 2410, 2420);
        edges.due("the total delay", 4800, x::totalDelay);
    }

    private static void disturbNoTrainOrStation() {
        edges.promise(18, "Throws `IndexOutOfBoundsException` if there is no such train or station");
        TrainTimetable x = Check.loaded(INSIDE);
        for (int wrong : new int[] {-1, 8, 9, LEAST, GREATEST}) {
            edges.noSuchIndex("train " + wrong, () -> x.disturb(wrong, 2, false, 1));
            edges.noSuchIndex("station " + wrong, () -> x.disturb(0, wrong, true, 1));
        }
        edges.noSuchIndex("train 1 of 1", () -> x.disturb(1, 2, false, 1));
        edges.noSuchIndex("station 5 of 5", () -> x.disturb(0, 5, false, 1));
        edges.noSuchIndex("no trains", () -> new TrainTimetable().disturb(0, 0, false, 1));
        edges.due("none of them counts", 0, () -> x.count(3));
    }

    private static void disturbForNoMinutes() {
        edges.promise(18, "Throws `IllegalArgumentException` if minutes is out of range");
        TrainTimetable x = Check.loaded(INSIDE);
        for (int wrong : new int[] {0, -1, 121, LEAST, GREATEST}) {
            edges.noSuchArgument("minutes " + wrong, () -> x.disturb(0, 2, false, wrong));
        }
        edges.due("none of them counts", 0, () -> x.count(3));
        edges.due("minutes 1", 1, () -> x.disturb(0, 2, false, 1));
        edges.due("minutes 120", 2, () -> x.disturb(0, 2, false, 120));
    }

    private static void disturbNoEvent() {
        edges.promise(18, "Throws `NoSuchElementException` if the train has no such event there");
        TrainTimetable x = Check.loaded(INSIDE);
        edges.noSuchElement("departure before its first station", () -> x.disturb(0, 0, false, 1));
        edges.noSuchElement("arrival at its first station", () -> x.disturb(0, 1, true, 1));
        edges.noSuchElement("departure from its last station", () -> x.disturb(0, 3, false, 1));
        edges.noSuchElement("arrival behind its last station", () -> x.disturb(0, 4, true, 1));
        edges.due("none of them counts", 0, () -> x.count(3));
        edges.due("departure from its first station", 1, () -> x.disturb(0, 1, false, 1));
        edges.due("arrival at the next one", 2, () -> x.disturb(0, 2, true, 1));
        edges.due("departure from the last one but one", 3, () -> x.disturb(0, 2, false, 1));
        edges.due("arrival at its last station", 4, () -> x.disturb(0, 3, true, 1));
    }

    private static void disturbTooOften() {
        edges.promise(18, "Throws `IllegalStateException` if there are 20 disturbances");
        TrainTimetable x = Check.loaded(PLAIN);
        for (int i = 0; i < 19; i++) {
            x.disturb(i % 2, 0, false, 1);
        }
        edges.due("the 20th", 20, () -> x.disturb(0, 2, true, 1));
        int delay = x.totalDelay();
        edges.wrongState("the 21st", () -> x.disturb(0, 0, false, 1));
        edges.wrongState("the 21st, of another train", () -> x.disturb(1, 1, true, 120));
        edges.due("the delay stays", delay, x::totalDelay);
        edges.due("the number stays", 20, () -> x.count(3));
        edges.due("clear", 20, x::clear);
        edges.due("the first one then", 1, () -> x.disturb(0, 0, false, 1));
    }

    // ---- promise 19

    private static void clearAll() {
        edges.promise(19, "Removes all disturbances, and makes the actual orders the planned ones.");
        TrainTimetable x = Check.loaded(PLAIN);
        x.plan(0, 0, 1);
        x.setSupplement(0, 1, 3);
        String before = State.of(x);
        TrainTimetable y = Check.loaded(PLAIN);
        y.plan(0, 0, 1);
        y.setSupplement(0, 1, 3);
        for (int i = 0; i < 20; i++) {
            y.disturb(i % 2, i % 3, i % 3 > 0, 120);
        }
        y.overtake(0, 1, 0);
        y.clear();
        edges.equal("the state", before, State.of(y));
        // without disturbances, the orders alone
        TrainTimetable z = Check.loaded(PLAIN);
        z.overtake(0, 0, 1);
        z.clear();
        edges.equal("the state", State.of(Check.loaded(PLAIN)), State.of(z));
        TrainTimetable none = new TrainTimetable();
        none.clear();
        edges.equal("the state of a new object", State.of(new TrainTimetable()), State.of(none));
    }

    private static void cleared() {
        edges.promise(19, "Returns the number of disturbances that there were.");
        edges.due("a new object", 0, () -> new TrainTimetable().clear());
        TrainTimetable x = Check.loaded(ONE);
        edges.due("none", 0, x::clear);
        x.disturb(0, 0, false, 120);
        edges.due("one", 1, x::clear);
        edges.due("none any more", 0, x::clear);
        for (int i = 0; i < 20; i++) {
            x.disturb(0, 0, false, 120);
        }
        edges.due("twenty", 20, x::clear);
    }

    // ---- promise 20

    private static void notBeforeThePlan() {
        edges.ground(20, "(1) no event is before its planned time; the departure of a train from its first station is at"
                + " least its extra after the planned time;");
        TrainTimetable x = Check.loaded("line siding 10 siding 10 siding;train 0 2 100 1 5;");
        x.setSupplement(0, 0, 9);
        // the train could run faster than planned, but it does not
        actualTimes(x, 0, 100, 119, 124, 134);
        x.disturb(0, 0, false, 9);
        actualTimes(x, 0, 109, 119, 124, 134);
        x.disturb(0, 0, false, 1);
        actualTimes(x, 0, 110, 120, 125, 135);
        // the extra comes behind the planned time, not behind the start time
        TrainTimetable y = Check.loaded("line siding 10 siding;headway 20;train 0 1 0 1 0;train 0 1 5 1 0;");
        y.disturb(1, 0, false, 1);
        actualTimes(y, 1, 21, 31);
    }

    private static void withoutTheSupplement() {
        edges.ground(20, "(2) an arrival is at least running time + extra after the departure from the station before"
                + " (without the supplement);");
        TrainTimetable x = Check.loaded(ONE);
        x.setSupplement(0, 0, 9);
        x.disturb(0, 1, true, 9);
        edges.due("an extra as long as the supplement", 19, () -> x.actual(0, 1, true));
        edges.due("no delay", 0, x::totalDelay);
        x.disturb(0, 1, true, 1);
        actualTimes(x, 0, 0, 20, 20, 30);
        edges.due("a minute at both arrivals", 2, x::totalDelay);
    }

    private static void dwellAndExtra() {
        edges.ground(20, "(3) a departure from another than the first station is at least dwell time + extra after the"
                + " arrival there;");
        TrainTimetable x = Check.loaded("line siding 10 siding 10 siding;train 0 2 0 1 20;train 0 1 50 1 0;connect 1 0 1 0;");
        // it waits from 10 to 60 by the plan: 20 minutes of dwell time and 30 of waiting
        actualTimes(x, 0, 0, 10, 60, 70);
        x.disturb(0, 1, false, 30);
        actualTimes(x, 0, 0, 10, 60, 70);
        x.disturb(0, 1, false, 1);
        actualTimes(x, 0, 0, 10, 61, 71);
    }

    private static void actualOrders() {
        edges.ground(20, "(4), (5) as for the plan, but in the actual orders;");
        TrainTimetable x = Check.loaded(PLAIN);
        actualTimes(x, 0, 0, 10, 10, 20);
        actualTimes(x, 1, 5, 15, 15, 25);
        x.overtake(0, 0, 1);
        actualTimes(x, 1, 5, 15, 15, 25);
        actualTimes(x, 0, 10, 20, 20, 30);
        // just as late as the headway allows, and a minute later
        x.clear();
        x.disturb(0, 1, false, 1);
        actualTimes(x, 1, 5, 16, 16, 26);
        x.clear();
        x.setSupplement(1, 0, 1);
        x.disturb(0, 1, false, 1);
        edges.due("a supplement as long as the disturbance", 16, () -> x.planned(1, 1, true));
        actualTimes(x, 1, 5, 16, 16, 26);
        edges.due("train 0 alone is late", 1, x::lateTrains);
    }

    private static void actualOfNoTrainOrStation() {
        edges.promise(20, "Throws `IndexOutOfBoundsException` if there is no such train or station");
        TrainTimetable x = Check.loaded(INSIDE);
        for (boolean isArrival : new boolean[] {false, true}) {
            for (int wrong : new int[] {-1, 8, 9, LEAST, GREATEST}) {
                edges.noSuchIndex("train " + wrong, () -> x.actual(wrong, 2, isArrival));
                edges.noSuchIndex("station " + wrong, () -> x.actual(0, wrong, isArrival));
            }
            edges.noSuchIndex("train 1 of 1", () -> x.actual(1, 2, isArrival));
            edges.noSuchIndex("station 5 of 5", () -> x.actual(0, 5, isArrival));
            edges.noSuchIndex("no trains", () -> new TrainTimetable().actual(0, 0, isArrival));
        }
    }

    private static void actualOfNoEvent() {
        edges.promise(20, "Throws `NoSuchElementException` if the train has no such event there");
        TrainTimetable x = Check.loaded(INSIDE);
        edges.noSuchElement("departure before its first station", () -> x.actual(0, 0, false));
        edges.noSuchElement("arrival before its first station", () -> x.actual(0, 0, true));
        edges.noSuchElement("arrival at its first station", () -> x.actual(0, 1, true));
        edges.due("departure from its first station", 0, () -> x.actual(0, 1, false));
        edges.due("arrival at its last station", 20, () -> x.actual(0, 3, true));
        edges.noSuchElement("departure from its last station", () -> x.actual(0, 3, false));
        edges.noSuchElement("arrival behind its last station", () -> x.actual(0, 4, true));
        edges.noSuchElement("departure behind its last station", () -> x.actual(0, 4, false));
    }

    // ---- promises 21 to 23

    private static void totalDelay() {
        edges.ground(21, "The total delay is the sum of the delays of all arrivals of all trains.");
        edges.due("no trains", 0, () -> new TrainTimetable().totalDelay());
        TrainTimetable x = Check.loaded(PLAIN);
        edges.due("no disturbances", 0, x::totalDelay);
        x.setSupplement(1, 1, 9);
        x.disturb(1, 1, false, 9);
        edges.due("a late departure, and arrivals in time", 0, x::totalDelay);
        edges.due("the late departure", 24, () -> x.actual(1, 1, false));
        x.disturb(1, 1, false, 1);
        edges.due("a minute at the last station", 1, x::totalDelay);
        x.disturb(0, 0, false, 1);
        edges.due("both trains at both stations", 2 + 1 + 2, x::totalDelay);
        // the most that the disturbances can bring about
        TrainTimetable y = Check.loaded("line siding 1 siding 1 siding 1 siding 1 siding 1 siding 1 siding 1 siding;"
                + "train 0 7 0 1 0;".repeat(8));
        for (int i = 0; i < 20; i++) {
            y.disturb(0, 0, false, 120);
        }
        edges.due("the greatest total delay", 8 * 7 * 2400, y::totalDelay);
    }

    private static void lateTrains() {
        edges.promise(22, "Returns the trains that arrive late at their last station.");
        edges.due("no trains", 0, () -> new TrainTimetable().lateTrains());
        TrainTimetable x = Check.loaded(INSIDE);
        edges.due("no disturbances", 0, x::lateTrains);
        x.setSupplement(0, 2, 1);
        x.disturb(0, 1, false, 1);
        edges.due("late on the way only", 0, x::lateTrains);
        x.disturb(0, 1, false, 1);
        edges.due("a minute late", 1, x::lateTrains);
        x.setSupplement(0, 2, 2);
        edges.due("in time by a supplement", 0, x::lateTrains);
    }

    private static void bitsOfTrains() {
        edges.promise(22, "Returns a bit set (bit t for train t).");
        TrainTimetable x = Check.loaded("line siding 1 siding;"
                + "train 0 1 0 1 0;train 0 1 100 1 0;train 0 1 200 1 0;train 0 1 300 1 0;"
                + "train 0 1 400 1 0;train 0 1 500 1 0;train 0 1 600 1 0;train 0 1 700 1 0;");
        for (int t = 0; t < 8; t++) {
            int train = t;
            x.disturb(train, 0, false, 1);
            edges.due("train " + t + " alone", 1 << train, x::lateTrains);
            x.clear();
        }
        for (int t = 7; t >= 0; t--) {
            int train = t;
            x.disturb(train, 1, true, 1);
            edges.due("trains " + t + " to 7", 256 - (1 << train), x::lateTrains);
        }
    }

    private static void thresholds() {
        edges.promise(23, "- `threshold`: 0 to 120");
        TrainTimetable x = Check.loaded("line siding 1 siding;train 0 1 0 1 0;train 0 1 500 1 0;");
        x.disturb(0, 0, false, 1);
        x.disturb(1, 0, false, 120);
        edges.due("threshold 0", 0.0, () -> x.punctuality(0));
        edges.due("threshold 1", 0.5, () -> x.punctuality(1));
        edges.due("threshold 119", 0.5, () -> x.punctuality(119));
        edges.due("threshold 120", 1.0, () -> x.punctuality(120));
        x.disturb(1, 0, false, 1);
        edges.due("a delay of 121", 0.5, () -> x.punctuality(120));
    }

    private static void punctuality() {
        edges.promise(23, "the number of trains whose delay at their last station is at most a threshold, divided by the"
                + " number of trains, as doubles.");
        TrainTimetable one = Check.loaded(ONE);
        edges.due("one train in time", 1.0, () -> one.punctuality(0));
        one.disturb(0, 2, true, 5);
        edges.due("a delay above the threshold", 0.0, () -> one.punctuality(4));
        edges.due("a delay at the threshold", 1.0, () -> one.punctuality(5));
        TrainTimetable x = Check.loaded("line siding 1 siding;headway 1;" + "train 0 1 0 1 0;".repeat(7));
        x.disturb(6, 0, false, 1);
        edges.due("six of seven", 6.0 / 7.0, () -> x.punctuality(0));
        x.clear();
        x.disturb(0, 0, false, 1);
        edges.due("none of seven", 0.0, () -> x.punctuality(0));
        edges.due("all of seven", 1.0, () -> x.punctuality(1));
    }

    private static void punctualityOfNoThreshold() {
        edges.promise(23, "Throws `IllegalArgumentException` if threshold is out of range");
        TrainTimetable x = Check.loaded(ONE);
        for (int wrong : new int[] {-1, 121, LEAST, GREATEST}) {
            edges.noSuchArgument("threshold " + wrong, () -> x.punctuality(wrong));
        }
        edges.due("threshold 0", 1.0, () -> x.punctuality(0));
        edges.due("threshold 120", 1.0, () -> x.punctuality(120));
    }

    private static void punctualityOfNoTrain() {
        edges.promise(23, "Throws `NoSuchElementException` if there is no train");
        edges.noSuchElement("threshold 0", () -> new TrainTimetable().punctuality(0));
        edges.noSuchElement("threshold 120", () -> new TrainTimetable().punctuality(120));
        edges.noSuchElement("a line without trains", () -> Check.loaded("line plain 1 plain;").punctuality(5));
    }

    // ---- promises 24 and 25

    private static void keptOrMissed() {
        edges.ground(24, "A connection is kept if the actual arrival of A plus its minutes is at most the planned departure"
                + " of B plus the waiting time; otherwise it is missed.");
        for (int wait : new int[] {0, 1, 5, 60}) {
            TrainTimetable x = Check.loaded(CONNECTED.replace("headway", "wait " + wait + ";headway"));
            edges.due("no disturbance", true, () -> x.isKept(0));
            if (wait > 0) {
                x.disturb(0, 1, true, wait);
            }
            edges.due("as late as B waits, " + wait, true, () -> x.isKept(0));
            actualTimes(x, 1, 12 + wait, 22 + wait);
            x.disturb(0, 1, true, 1);
            edges.due("a minute later than " + wait, false, () -> x.isKept(0));
            actualTimes(x, 1, 12, 22);
        }
        // B is later than it waits for A, and A comes before B has left
        TrainTimetable y = Check.loaded(CONNECTED);
        y.disturb(0, 1, true, 6);
        y.disturb(1, 1, false, 100);
        edges.due("by the planned departure of B", false, () -> y.isKept(0));
        // A waits for B, and B for A
        TrainTimetable z = Check.loaded("line siding 10 siding 10 siding;headway 1;wait 2;"
                + "train 0 2 0 1 0;train 0 2 1 1 0;connect 0 1 1 0;connect 1 0 1 0;");
        actualTimes(z, 0, 0, 10, 11, 21);
        actualTimes(z, 1, 1, 11, 12, 22);
        z.disturb(1, 1, true, 2);
        edges.due("from 1 to 0, just in time", true, () -> z.isKept(1));
        edges.due("from 0 to 1", true, () -> z.isKept(0));
        actualTimes(z, 0, 0, 10, 13, 23);
        z.disturb(1, 1, true, 1);
        edges.due("from 1 to 0, too late", false, () -> z.isKept(1));
        actualTimes(z, 0, 0, 10, 11, 21);
    }

    private static void isKeptOfNoConnection() {
        edges.promise(24, "Throws `IndexOutOfBoundsException` if there is no such connection");
        edges.noSuchIndex("connection 0 of none", () -> new TrainTimetable().isKept(0));
        TrainTimetable one = Check.loaded(CONNECTED);
        edges.due("connection 0 of 1", true, () -> one.isKept(0));
        edges.noSuchIndex("connection 1 of 1", () -> one.isKept(1));
        TrainTimetable eight = Check.loaded(CONNECTED + "connect 0 1 1 0;".repeat(7));
        edges.due("connection 7 of 8", true, () -> eight.isKept(7));
        for (int wrong : new int[] {-1, 8, 9, LEAST, GREATEST}) {
            edges.noSuchIndex("connection " + wrong + " of 1", () -> one.isKept(wrong));
            edges.noSuchIndex("connection " + wrong + " of 8", () -> eight.isKept(wrong));
        }
    }

    private static void missed() {
        edges.promise(25, "Returns the number of missed connections.");
        edges.due("no connections", 0, () -> new TrainTimetable().missed());
        TrainTimetable x = Check.loaded("line siding 10 siding 10 siding;headway 1;wait 0;"
                + "train 0 1 0 1 0;train 1 2 0 1 0;" + "connect 0 1 1 7;connect 0 1 1 6;connect 0 1 1 5;"
                + "connect 0 1 1 4;connect 0 1 1 3;connect 0 1 1 2;connect 0 1 1 1;connect 0 1 1 0;");
        edges.due("all are kept", 0, x::missed);
        for (int i = 1; i <= 8; i++) {
            int number = i;
            x.disturb(0, 1, true, 1);
            edges.due("A is late by " + i, number, x::missed);
        }
        x.disturb(0, 1, true, 120);
        edges.due("all are missed", 8, x::missed);
        edges.due("B is in time then", 0, () -> x.cause(1, 1, false));
        x.clear();
        edges.due("all are kept again", 0, x::missed);
    }

    // ---- promise 26

    private static void causeIsTheLowest() {
        edges.promise(26, "the lowest number of a constraint of the actual times that would not hold if its time were a"
                + " minute earlier.");
        TrainTimetable x = Check.loaded(PLAIN);
        // without delay the planned time, though running time, headway and plain station bind as well
        edges.due("0 before 1, 2 and 3", 0, () -> x.cause(1, 1, true));
        x.disturb(0, 0, false, 1);
        edges.due("1 before 2 and 3", 1, () -> x.cause(1, 1, true));
        edges.due("2 alone", 2, () -> x.cause(1, 0, false));
        x.clear();
        x.disturb(0, 1, true, 4);
        // the headway of the arrivals and the plain station bind alike
        edges.due("2 before 3", 2, () -> x.cause(1, 1, true));
        x.disturb(0, 1, false, 1);
        edges.due("3 alone", 3, () -> x.cause(1, 1, true));

        TrainTimetable y = Check.loaded("line siding 10 siding 10 siding;headway 1;"
                + "train 0 1 0 1 0;train 1 2 11 1 0;train 1 2 12 1 0;connect 0 2 1 2;");
        edges.due("0 before 2 and 4", 0, () -> y.cause(2, 1, false));
        y.disturb(0, 1, true, 1);
        edges.due("4 alone", 4, () -> y.cause(2, 1, false));
        y.disturb(1, 1, false, 1);
        edges.due("2 before 4", 2, () -> y.cause(2, 1, false));
        y.disturb(2, 1, false, 1);
        edges.due("1 before 2 and 4", 1, () -> y.cause(2, 1, false));
    }

    private static void causes() {
        edges.promise(26, "Returns 0 the planned time (not (1) with an extra), 1 the train itself ((1) with an extra, (2)"
                + " or (3)), 2 the headway (4), 3 the plain station (5), 4 a connection (6).");
        TrainTimetable x = Check.loaded("line siding 10 siding 10 siding;train 0 2 0 1 3;");
        edges.due("0: a first departure", 0, () -> x.cause(0, 0, false));
        edges.due("0: an arrival", 0, () -> x.cause(0, 1, true));
        edges.due("0: a departure on the way", 0, () -> x.cause(0, 1, false));
        x.setSupplement(0, 1, 1);
        x.disturb(0, 0, false, 1);
        edges.due("1: (1) with an extra", 1, () -> x.cause(0, 0, false));
        edges.due("1: (2)", 1, () -> x.cause(0, 1, true));
        edges.due("1: (3)", 1, () -> x.cause(0, 1, false));
        edges.due("0: as late as the supplement makes up for", 0, () -> x.cause(0, 2, true));
        x.disturb(0, 2, true, 1);
        edges.due("1: (2) with an extra", 1, () -> x.cause(0, 2, true));
        TrainTimetable y = Check.loaded(PLAIN);
        y.disturb(0, 2, true, 1);
        edges.due("2: the headway of an arrival", 2, () -> y.cause(1, 2, true));
        y.disturb(0, 1, false, 1);
        edges.due("3: the plain station", 3, () -> y.cause(1, 1, true));
        y.disturb(0, 0, false, 1);
        edges.due("2: the headway of a departure", 2, () -> y.cause(1, 0, false));
        TrainTimetable z = Check.loaded(CONNECTED);
        z.disturb(0, 1, true, 5);
        edges.due("4: a connection that is kept", 4, () -> z.cause(1, 1, false));
        z.disturb(0, 1, true, 1);
        edges.due("0: a connection that is missed", 0, () -> z.cause(1, 1, false));
    }

    private static void causeOfNoTrainOrStation() {
        edges.promise(26, "Throws `IndexOutOfBoundsException` if there is no such train or station");
        TrainTimetable x = Check.loaded(INSIDE);
        for (boolean isArrival : new boolean[] {false, true}) {
            for (int wrong : new int[] {-1, 8, 9, LEAST, GREATEST}) {
                edges.noSuchIndex("train " + wrong, () -> x.cause(wrong, 2, isArrival));
                edges.noSuchIndex("station " + wrong, () -> x.cause(0, wrong, isArrival));
            }
            edges.noSuchIndex("train 1 of 1", () -> x.cause(1, 2, isArrival));
            edges.noSuchIndex("station 5 of 5", () -> x.cause(0, 5, isArrival));
            edges.noSuchIndex("no trains", () -> new TrainTimetable().cause(0, 0, isArrival));
        }
    }

    private static void causeOfNoEvent() {
        edges.promise(26, "Throws `NoSuchElementException` if the train has no such event there");
        TrainTimetable x = Check.loaded(INSIDE);
        edges.noSuchElement("departure before its first station", () -> x.cause(0, 0, false));
        edges.noSuchElement("arrival at its first station", () -> x.cause(0, 1, true));
        edges.due("departure from its first station", 0, () -> x.cause(0, 1, false));
        edges.due("arrival at its last station", 0, () -> x.cause(0, 3, true));
        edges.noSuchElement("departure from its last station", () -> x.cause(0, 3, false));
        edges.noSuchElement("arrival behind its last station", () -> x.cause(0, 4, true));
    }

    // ---- promise 27

    private static void recovery() {
        edges.promise(27, "Returns the time from which on no event is delayed: the greatest actual time of a delayed event"
                + " plus 1.");
        TrainTimetable x = Check.loaded(ONE);
        x.setSupplement(0, 0, 1);
        x.disturb(0, 0, false, 1);
        edges.due("the first departure alone", 2, x::recovery);
        x.disturb(0, 0, false, 1);
        edges.due("the last arrival, too", 23, x::recovery);
        // the greatest time is not that of the delayed event, nor that of the last train
        TrainTimetable y = Check.loaded("line siding 10 siding 10 siding;train 0 2 100 1 0;train 0 2 0 1 0;train 0 2 300 1 0;");
        y.disturb(0, 2, true, 1);
        y.disturb(1, 0, false, 1);
        edges.due("the later one of two", 122, y::recovery);
    }

    private static void nothingToRecover() {
        edges.promise(27, "Returns the time; 0 if no event is delayed.");
        edges.due("no trains", 0, () -> new TrainTimetable().recovery());
        TrainTimetable x = Check.loaded(ONE);
        edges.due("no disturbances", 0, x::recovery);
        x.setSupplement(0, 0, 9);
        x.disturb(0, 1, true, 9);
        edges.due("a disturbance that delays no event", 0, x::recovery);
        x.disturb(0, 1, true, 1);
        edges.due("a minute more", 31, x::recovery);
        x.clear();
        edges.due("cleared", 0, x::recovery);
    }
}
