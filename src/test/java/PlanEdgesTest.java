/** The boundary cases of promises 11 to 17, a test for each sentence. */
public final class PlanEdgesTest {
    private static final int LEAST = Integer.MIN_VALUE;
    private static final int GREATEST = Integer.MAX_VALUE;

    /** One train that runs from station 1 to station 3 of the stations 0 to 4. */
    private static final String INSIDE = "line siding 10 siding 10 siding 10 siding 10 siding;train 1 3 0 1 0;";
    /** A slow train and a fast one behind it; station 2 is plain. */
    private static final String SLOW_AND_FAST =
            "line siding 10 siding 10 plain 10 siding;headway 3;train 0 3 0 3 0;train 0 3 1 1 0;";
    private static final String[] LONGEST_LINES = {
        "line siding 60 siding 60 siding 60 siding 60 siding 60 siding 60 siding 60 siding;",
        "line plain 60 plain 60 plain 60 plain 60 plain 60 plain 60 plain 60 plain;"};

    private static final Edges edges = new Edges(11, 17);

    public static void main(String[] args) {
        events();
        startTimes();
        runningTimes();
        dwellTimes();
        headways();
        plainStations();
        connections();
        longestPlan();
        plannedOfNoTrainOrStation();
        plannedOfNoEvent();
        planTheActualOrders();
        planAtStations();
        planReturns();
        planOfNoStationOrTrain();
        planOfNoOvertaking();
        planNeedsAllSegments();
        supplements();
        supplementBefore();
        setSupplementOfNoRun();
        setSupplementOfNoMinutes();
        supplementOfNoRun();
        buffers();
        bufferOfNoRun();
        bufferOfNoTrainBefore();
        speeds();
        speedOfNoTrain();
        lastArrivals();
        lastArrivalOfNoTrain();
        edges.end();
    }

    private static void planTimes(TrainTimetable x, int train, int... want) {
        PlanTest.times(edges, x, false, train, want);
    }

    // ---- promise 11

    private static void events() {
        edges.ground(11, "It departs from the stations f to g - 1 and arrives at the stations f + 1 to g.");
        TrainTimetable x = Check.loaded(INSIDE);
        edges.noSuchElement("departure from f - 1", () -> x.planned(0, 0, false));
        edges.due("departure from f", 0, () -> x.planned(0, 1, false));
        edges.due("departure from g - 1", 10, () -> x.planned(0, 2, false));
        edges.noSuchElement("departure from g", () -> x.planned(0, 3, false));
        edges.noSuchElement("arrival at f", () -> x.planned(0, 1, true));
        edges.due("arrival at f + 1", 10, () -> x.planned(0, 2, true));
        edges.due("arrival at g", 20, () -> x.planned(0, 3, true));
        edges.noSuchElement("arrival at g + 1", () -> x.planned(0, 4, true));
        TrainTimetable y = Check.loaded("line siding 1 siding;train 0 1 0 1 0;");
        planTimes(y, 0, 0, 1);
        edges.noSuchElement("arrival at the line's first station", () -> y.planned(0, 0, true));
        edges.noSuchElement("departure from the line's last station", () -> y.planned(0, 1, false));
    }

    private static void startTimes() {
        edges.ground(11, "(1) the departure of a train from its first station is not before its start time;");
        TrainTimetable x = Check.loaded("line siding 1 siding;train 0 1 0 1 0;train 0 1 1000 1 0;");
        planTimes(x, 0, 0, 1);
        planTimes(x, 1, 1000, 1001);
        // trains 1 and 2 start just in time, and a minute too early, for the headway
        TrainTimetable y = Check.loaded("line siding 1 siding;headway 5;train 0 1 0 1 0;train 0 1 5 1 0;train 0 1 9 1 0;");
        planTimes(y, 1, 5, 6);
        planTimes(y, 2, 10, 11);
    }

    private static void runningTimes() {
        edges.ground(11, "its running time on a segment is length * pace.");
        TrainTimetable x = Check.loaded("line siding 1 siding 60 siding;train 0 2 0 1 0;train 0 2 500 5 0;");
        planTimes(x, 0, 0, 1, 1, 61);
        planTimes(x, 1, 500, 505, 505, 805);
        edges.ground(11, "(2) an arrival is at least running time + supplement after the departure from the station before;");
        x.setSupplement(1, 0, 9);
        x.setSupplement(1, 1, 1);
        planTimes(x, 1, 500, 514, 514, 815);
    }

    private static void dwellTimes() {
        edges.ground(11, "(3) a departure from another than the first station is at least the dwell time after the"
                + " arrival there;");
        TrainTimetable x = Check.loaded("line siding 10 siding 10 plain 10 siding;train 0 3 0 1 0;train 0 3 500 1 20;");
        planTimes(x, 0, 0, 10, 10, 20, 20, 30);
        planTimes(x, 1, 500, 510, 530, 540, 560, 570);
    }

    private static void headways() {
        edges.ground(11, "then the departure of b to this segment and the arrival of b at its end are each at least H"
                + " after that of a;");
        for (int headway : new int[] {1, 3, 20}) {
            // train 1 is bound by its departure, train 2 is faster and bound by its arrival
            TrainTimetable x = Check.loaded("line siding 30 siding;headway " + headway
                    + ";train 0 1 0 2 0;train 0 1 0 2 0;train 0 1 0 1 0;");
            planTimes(x, 0, 0, 60);
            planTimes(x, 1, headway, 60 + headway);
            planTimes(x, 2, 2 * headway, 60 + 2 * headway);
        }
        edges.ground(11, "(4) if b is the next train behind a among the trains that run over a segment, in its planned"
                + " order,");
        // train 1 ends at station 1, so train 2 is behind train 0 on segment 1
        TrainTimetable y = Check.loaded("line siding 10 siding 10 siding;headway 5;"
                + "train 0 2 0 1 0;train 0 1 0 1 0;train 1 2 0 1 0;");
        planTimes(y, 0, 0, 10, 10, 20);
        planTimes(y, 1, 5, 15);
        planTimes(y, 2, 15, 25);
    }

    private static void plainStations() {
        edges.ground(11, "station s is plain, and a departs from it, too, then the arrival of b at station s is at least"
                + " H after the departure of a from it;");
        String trains = "headway 5;train 0 2 0 1 20;train 0 2 0 1 0;";
        TrainTimetable plain = Check.loaded("line siding 10 plain 10 siding;" + trains);
        planTimes(plain, 0, 0, 10, 30, 40);
        planTimes(plain, 1, 5, 35, 35, 45);
        TrainTimetable siding = Check.loaded("line siding 10 siding 10 siding;" + trains);
        planTimes(siding, 1, 5, 15, 35, 45);
        // the train ahead ends at the plain station, or begins there
        TrainTimetable ends = Check.loaded("line siding 10 plain 10 siding;headway 5;train 0 1 0 1 20;train 0 2 0 1 0;");
        planTimes(ends, 1, 5, 15, 15, 25);
        TrainTimetable begins = Check.loaded("line siding 1 plain 10 siding;headway 5;train 1 2 18 1 0;train 0 2 18 1 0;");
        planTimes(begins, 1, 18, 19, 23, 33);
        // the line's last station is plain: nobody departs from it
        TrainTimetable last = Check.loaded("line plain 10 plain;headway 5;train 0 1 0 1 20;train 0 1 0 1 20;");
        planTimes(last, 1, 5, 15);
    }

    private static void connections() {
        edges.ground(11, "(6) for a connection, the departure of B is at least its minutes after the arrival of A.");
        for (int minutes : new int[] {0, 1, 30}) {
            // the waiting time is none, but the plan waits for all
            TrainTimetable x = Check.loaded("line siding 10 siding 10 siding;wait 0;"
                    + "train 0 1 900 1 0;train 1 2 0 1 0;connect 0 1 1 " + minutes + ";");
            planTimes(x, 1, 910 + minutes, 920 + minutes);
        }
        // A is there before B: just in time, and a minute too late
        TrainTimetable y = Check.loaded("line siding 10 siding 10 siding;headway 1;"
                + "train 0 1 0 1 0;train 1 2 30 1 0;train 1 2 40 1 0;connect 0 1 1 20;connect 0 2 1 30;connect 0 1 1 21;");
        planTimes(y, 1, 31, 41);
        planTimes(y, 2, 40, 50);
    }

    private static void longestPlan() {
        edges.promise(11, "Returns the time.");
        int[] apart = {20, 40};
        for (int i = 0; i < 2; i++) {
            TrainTimetable x = Check.loaded(LONGEST_LINES[i] + "headway 20;" + "train 0 7 1000 5 20;".repeat(8));
            for (int segment = 0; segment < 7; segment++) {
                for (int train = 0; train < 8; train++) {
                    x.setSupplement(train, segment, 9);
                }
            }
            edges.due("the first train", 1000 + 7 * 309 + 6 * 20, () -> x.planned(0, 7, true));
            int last = 3283 + 7 * apart[i];
            edges.due("the last train", last, () -> x.planned(7, 7, true));
            edges.due("the last arrival", last, x::lastArrival);
        }
    }

    private static void plannedOfNoTrainOrStation() {
        edges.promise(11, "Throws `IndexOutOfBoundsException` if there is no such train or station");
        TrainTimetable x = Check.loaded(INSIDE);
        for (boolean isArrival : new boolean[] {false, true}) {
            for (int wrong : new int[] {-1, 8, 9, LEAST, GREATEST}) {
                edges.noSuchIndex("train " + wrong, () -> x.planned(wrong, 2, isArrival));
                edges.noSuchIndex("station " + wrong, () -> x.planned(0, wrong, isArrival));
            }
            edges.noSuchIndex("train 1 of 1", () -> x.planned(1, 2, isArrival));
            edges.noSuchIndex("station 5 of 5", () -> x.planned(0, 5, isArrival));
            edges.noSuchIndex("no trains", () -> new TrainTimetable().planned(0, 0, isArrival));
        }
    }

    private static void plannedOfNoEvent() {
        edges.promise(11, "Throws `NoSuchElementException` if the train has no such event there");
        TrainTimetable x = Check.loaded(INSIDE);
        edges.noSuchElement("station 0, the first one of the line", () -> x.planned(0, 0, true));
        edges.noSuchElement("station 0, the first one of the line", () -> x.planned(0, 0, false));
        edges.noSuchElement("station 4, the last one of the line", () -> x.planned(0, 4, true));
        edges.noSuchElement("station 4, the last one of the line", () -> x.planned(0, 4, false));
        edges.noSuchElement("arrival at its first station", () -> x.planned(0, 1, true));
        edges.noSuchElement("departure from its last station", () -> x.planned(0, 3, false));
    }

    // ---- promise 12

    private static void planTheActualOrders() {
        edges.promise(12, "The actual orders become the planned ones.");
        TrainTimetable x = Check.loaded("line siding 10 siding 10 siding;train 0 2 0 1 0;train 0 2 1 1 0;train 0 2 2 1 0;");
        x.overtake(0, 0, 1);
        x.disturb(0, 0, false, 7);
        x.plan(1, 1, 2);
        int[][] orders = {{0, 1, 2}, {0, 2, 1}};
        for (int s = 0; s < 2; s++) {
            for (int i = 0; i < 3; i++) {
                int segment = s;
                int index = i;
                edges.due("planned", orders[s][i], () -> x.order(false, segment, index));
                edges.due("actual", orders[s][i], () -> x.order(true, segment, index));
            }
        }
        edges.due("disturbances stay", 1, () -> x.count(3));
        PlanTest.times(edges, x, true, 0, 7, 17, 17, 27);
        PlanTest.times(edges, x, true, 1, 10, 20, 26, 36);
        PlanTest.times(edges, x, true, 2, 13, 23, 23, 33);
    }

    private static void planAtStations() {
        edges.promise(12, "- `station`: number of a station, not the last one");
        TrainTimetable two = Check.loaded("line siding 10 siding;train 0 1 0 1 0;train 0 1 0 1 0;");
        edges.due("the only station of two", 10, () -> two.plan(0, 0, 1));
        edges.noSuchIndex("the last station of two", () -> two.plan(1, 1, 0));
        TrainTimetable eight = Check.loaded("line siding 1 siding 1 siding 1 siding 1 siding 1 siding 1 siding 1 siding;"
                + "headway 1;train 0 7 0 1 0;train 0 7 0 1 0;");
        edges.due("the last but one of eight", 8, () -> eight.plan(6, 0, 1));
        edges.due("the order before it", 0, () -> eight.order(false, 5, 0));
        edges.due("the order behind it", 1, () -> eight.order(false, 6, 0));
        edges.noSuchIndex("the last one of eight", () -> eight.plan(7, 1, 0));
    }

    private static void planReturns() {
        edges.promise(12, "Returns the planned arrival of b at its last station then.");
        TrainTimetable x = Check.loaded(SLOW_AND_FAST);
        edges.due("b overtakes at station 1", 53, () -> x.plan(1, 0, 1));
        edges.due("and it is planned so", 53, () -> x.planned(1, 3, true));
        edges.due("a overtakes it there", 90, () -> x.plan(1, 1, 0));
        // b ends at the station where it overtakes, or before
        TrainTimetable y = Check.loaded("line siding 10 siding 10 siding 10 siding;train 0 3 0 1 0;train 0 1 0 1 0;");
        edges.due("b ends at the station", 13, () -> y.plan(1, 0, 1));
        edges.due("a ends before the station", 30, () -> y.plan(2, 1, 0));
    }

    private static void planOfNoStationOrTrain() {
        edges.promise(12, "Throws `IndexOutOfBoundsException` if there is no such station (the last one included) or train");
        TrainTimetable x = Check.loaded(SLOW_AND_FAST);
        for (int wrong : new int[] {-1, 8, 9, LEAST, GREATEST}) {
            edges.noSuchIndex("station " + wrong, () -> x.plan(wrong, 0, 1));
            edges.noSuchIndex("a " + wrong, () -> x.plan(1, wrong, 1));
            edges.noSuchIndex("b " + wrong, () -> x.plan(1, 0, wrong));
        }
        edges.noSuchIndex("station 4 of 4", () -> x.plan(4, 0, 1));
        edges.noSuchIndex("station 3, the last one", () -> x.plan(3, 0, 1));
        edges.noSuchIndex("a 2 of 2", () -> x.plan(1, 2, 1));
        edges.noSuchIndex("b 2 of 2", () -> x.plan(1, 0, 2));
        edges.noSuchIndex("no trains", () -> new TrainTimetable().plan(0, 0, 0));
        edges.due("station 0 is taken", 31, () -> x.plan(0, 0, 1));
    }

    private static void planOfNoOvertaking() {
        edges.promise(12, "Throws `IllegalStateException` if b cannot overtake a there in the planned orders");
        TrainTimetable x = Check.loaded(SLOW_AND_FAST);
        edges.wrongState("a plain station", () -> x.plan(2, 0, 1));
        edges.wrongState("b is before a", () -> x.plan(1, 1, 0));
        edges.wrongState("b is a, the first one", () -> x.plan(1, 0, 0));
        edges.wrongState("b is a, the last one", () -> x.plan(1, 1, 1));
        x.overtake(1, 0, 1);
        edges.wrongState("b is before a in the planned orders, not in the actual ones", () -> x.plan(1, 1, 0));
        edges.due("b is behind a in the planned orders, not in the actual ones", 53, () -> x.plan(1, 0, 1));
        TrainTimetable one = Check.loaded("line siding 1 siding;train 0 1 0 1 0;");
        edges.wrongState("a single train", () -> one.plan(0, 0, 0));
    }

    private static void planNeedsAllSegments() {
        edges.ground(12, "If a train a is directly before a train b in the orders of all segments from segment s to the"
                + " last one of the line, and station s has a siding, b can overtake a at station s");
        TrainTimetable x = Check.loaded("line siding 10 siding 10 siding 10 siding;"
                + "train 0 3 0 1 0;train 0 1 0 1 0;train 0 3 0 1 0;");
        edges.wrongState("a train between that does not run there", () -> x.plan(2, 0, 2));
        x.plan(2, 1, 2);
        // 0 1 2 on segments 0 and 1, 0 2 1 on segment 2
        edges.wrongState("directly before on the first segments only", () -> x.plan(0, 1, 2));
        edges.wrongState("directly before on the first segments only", () -> x.plan(1, 1, 2));
        edges.wrongState("directly before on the last segment only", () -> x.plan(1, 0, 2));
        edges.wrongState("directly before on the last segment only", () -> x.plan(0, 0, 2));
        edges.due("directly before on the last segment, from there on", 36, () -> x.plan(2, 0, 2));
        int[][] orders = {{0, 1, 2}, {0, 1, 2}, {2, 0, 1}};
        for (int s = 0; s < 3; s++) {
            for (int i = 0; i < 3; i++) {
                int segment = s;
                int index = i;
                edges.due("order " + s + ", " + i, orders[s][i], () -> x.order(false, segment, index));
            }
        }
        edges.due("directly before on all segments", 10, () -> x.plan(0, 0, 1));
    }

    // ---- promises 13 and 14

    private static void supplements() {
        edges.promise(13, "- `minutes`: 0 to 9");
        TrainTimetable x = Check.loaded(INSIDE);
        for (int minutes = 0; minutes <= 9; minutes++) {
            int set = minutes;
            x.setSupplement(0, 1, minutes);
            x.setSupplement(0, 2, 9 - minutes);
            edges.due("supplement " + minutes, set, () -> x.supplement(0, 1));
            planTimes(x, 0, 0, 10 + minutes, 10 + minutes, 29);
        }
        edges.noSuchArgument("minutes -1", () -> x.setSupplement(0, 1, -1));
        edges.noSuchArgument("minutes 10", () -> x.setSupplement(0, 1, 10));
    }

    private static void supplementBefore() {
        edges.promise(13, "Returns the previous supplement.");
        TrainTimetable x = Check.loaded(INSIDE);
        edges.due("the first call", 0, () -> x.setSupplement(0, 1, 9));
        edges.due("the greatest one", 9, () -> x.setSupplement(0, 1, 9));
        edges.due("the same one", 9, () -> x.setSupplement(0, 1, 0));
        edges.due("none", 0, () -> x.setSupplement(0, 1, 1));
        edges.noSuchArgument("a refused one", () -> x.setSupplement(0, 1, 10));
        edges.due("not the refused one", 1, () -> x.setSupplement(0, 1, 2));
        edges.due("another segment", 0, () -> x.setSupplement(0, 2, 2));
    }

    private static void setSupplementOfNoRun() {
        edges.promise(13, "Throws `IndexOutOfBoundsException` if there is no such train, or it does not run over the segment");
        TrainTimetable x = Check.loaded(INSIDE);
        edges.noSuchIndex("train 1 of 1", () -> x.setSupplement(1, 1, 0));
        edges.noSuchIndex("the segment before its first one", () -> x.setSupplement(0, 0, 0));
        edges.due("its first segment", 0, () -> x.setSupplement(0, 1, 0));
        edges.due("its last segment", 0, () -> x.setSupplement(0, 2, 0));
        edges.noSuchIndex("the segment behind its last one", () -> x.setSupplement(0, 3, 0));
        edges.noSuchIndex("segment 4 of 4", () -> x.setSupplement(0, 4, 0));
        for (int wrong : new int[] {-1, 8, 9, LEAST, GREATEST}) {
            edges.noSuchIndex("train " + wrong, () -> x.setSupplement(wrong, 1, 0));
            edges.noSuchIndex("segment " + wrong, () -> x.setSupplement(0, wrong, 0));
        }
        edges.noSuchIndex("no trains", () -> new TrainTimetable().setSupplement(0, 0, 0));
    }

    private static void setSupplementOfNoMinutes() {
        edges.promise(13, "Throws `IllegalArgumentException` if minutes is out of range");
        TrainTimetable x = Check.loaded(INSIDE);
        for (int wrong : new int[] {-1, 10, LEAST, GREATEST}) {
            edges.noSuchArgument("minutes " + wrong, () -> x.setSupplement(0, 1, wrong));
            edges.due("the supplement stays", 0, () -> x.supplement(0, 1));
        }
        edges.due("minutes 0", 0, () -> x.setSupplement(0, 1, 0));
        edges.due("minutes 9", 0, () -> x.setSupplement(0, 1, 9));
    }

    private static void supplementOfNoRun() {
        edges.promise(14, "Throws `IndexOutOfBoundsException` if there is no such train, or it does not run over the segment");
        TrainTimetable x = Check.loaded(INSIDE);
        x.setSupplement(0, 1, 8);
        x.setSupplement(0, 2, 9);
        edges.noSuchIndex("the segment before its first one", () -> x.supplement(0, 0));
        edges.due("its first segment", 8, () -> x.supplement(0, 1));
        edges.due("its last segment", 9, () -> x.supplement(0, 2));
        edges.noSuchIndex("the segment behind its last one", () -> x.supplement(0, 3));
        edges.noSuchIndex("segment 4 of 4", () -> x.supplement(0, 4));
        edges.noSuchIndex("train 1 of 1", () -> x.supplement(1, 1));
        for (int wrong : new int[] {-1, 8, 9, LEAST, GREATEST}) {
            edges.noSuchIndex("train " + wrong, () -> x.supplement(wrong, 1));
            edges.noSuchIndex("segment " + wrong, () -> x.supplement(0, wrong));
        }
        edges.noSuchIndex("no trains", () -> new TrainTimetable().supplement(0, 0));
    }

    // ---- promise 15

    private static void buffers() {
        edges.promise(15, "Returns the buffer of a train on a segment: how much later than H its planned departure is"
                + " behind that of the train before it on the segment.");
        TrainTimetable x = Check.loaded("line siding 10 siding;headway 20;"
                + "train 0 1 0 1 0;train 0 1 0 1 0;train 0 1 40 1 0;train 0 1 61 1 0;train 0 1 1000 1 0;");
        edges.due("held back by the headway", 0, () -> x.buffer(1, 0));
        edges.due("just in time", 0, () -> x.buffer(2, 0));
        edges.due("a minute later", 1, () -> x.buffer(3, 0));
        edges.due("much later", 1000 - 61 - 20, () -> x.buffer(4, 0));
        x.disturb(0, 0, false, 120);
        edges.due("by the plan", 1, () -> x.buffer(3, 0));
    }

    private static void bufferOfNoRun() {
        edges.promise(15, "Throws `IndexOutOfBoundsException` if there is no such train, or it does not run over the segment");
        TrainTimetable x = Check.loaded("line siding 10 siding 10 siding 10 siding 10 siding;"
                + "train 0 4 0 1 0;train 1 3 0 1 0;");
        edges.noSuchIndex("the segment before its first one", () -> x.buffer(1, 0));
        edges.due("its first segment", 0, () -> x.buffer(1, 1));
        edges.due("its last segment", 0, () -> x.buffer(1, 2));
        edges.noSuchIndex("the segment behind its last one", () -> x.buffer(1, 3));
        edges.noSuchIndex("segment 4 of 4", () -> x.buffer(1, 4));
        edges.noSuchIndex("train 2 of 2", () -> x.buffer(2, 1));
        for (int wrong : new int[] {-1, 8, 9, LEAST, GREATEST}) {
            edges.noSuchIndex("train " + wrong, () -> x.buffer(wrong, 1));
            edges.noSuchIndex("segment " + wrong, () -> x.buffer(1, wrong));
        }
        edges.noSuchIndex("no trains", () -> new TrainTimetable().buffer(0, 0));
    }

    private static void bufferOfNoTrainBefore() {
        edges.promise(15, "Throws `NoSuchElementException` if no train is before it on the segment");
        TrainTimetable x = Check.loaded("line siding 10 siding 10 siding 10 siding;"
                + "train 1 2 0 1 0;train 0 3 0 1 0;train 0 3 0 1 0;");
        edges.noSuchElement("the first one of the order", () -> x.buffer(0, 1));
        edges.noSuchElement("the one before does not run over the segment yet", () -> x.buffer(1, 0));
        edges.due("the one before runs over the segment", 7, () -> x.buffer(1, 1));
        edges.noSuchElement("the one before does not run over the segment any more", () -> x.buffer(1, 2));
        edges.due("the last one of the order", 0, () -> x.buffer(2, 2));
        x.plan(2, 1, 2);
        edges.noSuchElement("it has overtaken the one before", () -> x.buffer(2, 2));
        edges.due("it was overtaken", 0, () -> x.buffer(1, 2));
        TrainTimetable one = Check.loaded("line siding 1 siding;train 0 1 0 1 0;");
        edges.noSuchElement("a single train", () -> one.buffer(0, 0));
    }

    // ---- promises 16 and 17

    private static void speeds() {
        edges.promise(16, "the sum of the lengths of its segments divided by the time from its first departure to its last"
                + " arrival, as doubles.");
        TrainTimetable x = Check.loaded("line siding 1 siding 1 siding 1 siding;"
                + "train 0 1 0 1 0;train 0 2 500 5 20;train 1 3 1000 1 0;");
        edges.due("a segment a minute long", 1.0, () -> x.speed(0));
        x.setSupplement(1, 0, 9);
        x.setSupplement(1, 1, 9);
        edges.due("the slowest train", 2.0 / 48.0, () -> x.speed(1));
        edges.due("a train of the last segments", 1.0, () -> x.speed(2));
        TrainTimetable y = Check.loaded(LONGEST_LINES[0] + "train 0 7 1000 5 20;train 0 7 1000 1 0;");
        edges.due("the longest way", 420.0 / 2220.0, () -> y.speed(0));
        // it departs at 1003 and can't arrive before 3223
        edges.due("held back on the way", 420.0 / 2220.0, () -> y.speed(1));
        y.disturb(0, 0, false, 120);
        edges.due("by the plan", 420.0 / 2220.0, () -> y.speed(1));
    }

    private static void speedOfNoTrain() {
        edges.promise(16, "Throws `IndexOutOfBoundsException` if there is no such train");
        TrainTimetable x = Check.loaded("line siding 1 siding;" + "train 0 1 0 1 0;".repeat(8));
        edges.due("train 0 of 8", 1.0, () -> x.speed(0));
        edges.due("train 7 of 8", 1.0, () -> x.speed(7));
        for (int wrong : new int[] {-1, 8, 9, LEAST, GREATEST}) {
            edges.noSuchIndex("train " + wrong + " of 8", () -> x.speed(wrong));
        }
        edges.noSuchIndex("train 0 of none", () -> new TrainTimetable().speed(0));
        edges.noSuchIndex("train 1 of 1", () -> Check.loaded(INSIDE).speed(1));
    }

    private static void lastArrivals() {
        edges.promise(17, "Returns the last planned arrival of all trains.");
        edges.due("a single train", 20, () -> Check.loaded(INSIDE).lastArrival());
        // the train that arrives last is not the last one, and does not go to the end of the line
        TrainTimetable x = Check.loaded("line siding 10 siding 10 siding;train 0 1 1000 5 0;train 0 2 0 1 0;");
        edges.due("the first train", 1050, x::lastArrival);
        TrainTimetable y = Check.loaded("line siding 10 siding 10 siding;train 0 2 0 1 0;train 0 1 1000 5 0;");
        edges.due("the last train", 1050, y::lastArrival);
        y.disturb(1, 1, true, 120);
        edges.due("by the plan", 1050, y::lastArrival);
    }

    private static void lastArrivalOfNoTrain() {
        edges.promise(17, "Throws `NoSuchElementException` if there is no train");
        edges.noSuchElement("a new object", () -> new TrainTimetable().lastArrival());
        TrainTimetable x = Check.loaded(INSIDE);
        edges.due("one train", 20, x::lastArrival);
        Check.put(x, "line siding 1 siding;");
        x.load();
        edges.noSuchElement("a line without trains", x::lastArrival);
    }
}
