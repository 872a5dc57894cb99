/** The boundary cases of promises 7 to 10, a test for each sentence. */
public final class ReportEdgesTest {
    private static final int LEAST = Integer.MIN_VALUE;
    private static final int GREATEST = Integer.MAX_VALUE;
    private static final String FULL = "line siding 1 siding 2 siding 3 plain 4 siding 5 siding 6 siding 7 siding;"
            + "headway 20;wait 60;" + "train 0 7 0 5 20;".repeat(8) + "connect 0 1 6 30;".repeat(8);
    private static final String THREE = "line siding 10 plain 20 siding 30 siding;headway 4;wait 0;"
            + "train 0 2 30 1 2;train 1 3 10 2 0;train 0 3 30 5 20;connect 0 1 2 3;";

    private static final Edges edges = new Edges(7, 10);

    public static void main(String[] args) {
        counts();
        countWrongly();
        sidings();
        noSuchStation();
        reports();
        noSuchTrain();
        noSuchReport();
        allTrainsIncluded();
        equalStarts();
        indices();
        noSuchSegmentOrIndex();
        edges.end();
    }

    private static void counts() {
        edges.promise(7, "- `what`: 0 stations, 1 trains, 2 connections, 3 disturbances, 4 headway, 5 waiting time");
        TrainTimetable full = Check.loaded(FULL);
        for (int i = 0; i < 20; i++) {
            full.disturb(7, 7, true, 1);
        }
        TrainTimetable small = Check.loaded("line plain 1 plain;headway 1;wait 0;");
        int[] most = {8, 8, 8, 20, 20, 60};
        int[] least = {2, 0, 0, 0, 1, 0};
        int[] first = {2, 0, 0, 0, 3, 5};
        TrainTimetable fresh = new TrainTimetable();
        for (int i = 0; i < 6; i++) {
            int what = i;
            edges.due("the most of " + i, most[i], () -> full.count(what));
            edges.due("the least of " + i, least[i], () -> small.count(what));
            edges.due("a new object's " + i, first[i], () -> fresh.count(what));
        }
        edges.wrongState("a refused disturbance", () -> full.disturb(7, 7, true, 1));
        edges.due("a refused disturbance does not count", 20, () -> full.count(3));
        full.clear();
        edges.due("cleared disturbances do not count", 0, () -> full.count(3));
    }

    private static void countWrongly() {
        edges.promise(7, "Throws `IllegalArgumentException` if what is out of range");
        for (TrainTimetable x : new TrainTimetable[] {new TrainTimetable(), Check.loaded(FULL)}) {
            for (int what : new int[] {-1, 6, 7, LEAST, GREATEST}) {
                edges.noSuchArgument("count(" + what + ")", () -> x.count(what));
            }
            edges.due("count(0) is taken", true, () -> x.count(0) > 0);
            edges.due("count(5) is taken", true, () -> x.count(5) > 0);
        }
    }

    private static void sidings() {
        edges.promise(8, "Returns whether it has a siding.");
        TrainTimetable full = Check.loaded(FULL);
        for (int s = 0; s < 8; s++) {
            int station = s;
            edges.due("station " + s + " of 8", s != 3, () -> full.isSiding(station));
        }
        TrainTimetable plain = Check.loaded("line plain 1 plain 1 plain 1 plain 1 plain 1 plain 1 plain 1 siding;");
        for (int s = 0; s < 8; s++) {
            int station = s;
            edges.due("station " + s + " of 8, the last one alone with a siding", s == 7, () -> plain.isSiding(station));
        }
    }

    private static void noSuchStation() {
        edges.promise(8, "Throws `IndexOutOfBoundsException` if there is no such station");
        TrainTimetable two = new TrainTimetable();
        edges.due("the last one of 2", true, () -> two.isSiding(1));
        for (int station : new int[] {-1, 2, 8, 32, 33, LEAST, GREATEST}) {
            edges.noSuchIndex("station " + station + " of 2", () -> two.isSiding(station));
        }
        TrainTimetable eight = Check.loaded(FULL);
        edges.due("the last one of 8", true, () -> eight.isSiding(7));
        for (int station : new int[] {-1, 8, 9, 32, LEAST, GREATEST}) {
            edges.noSuchIndex("station " + station + " of 8", () -> eight.isSiding(station));
        }
    }

    private static void reports() {
        edges.promise(9, "- `what`: 0 first station, 1 last station, 2 start time, 3 pace, 4 dwell time,"
                + " 5 sum of its supplements");
        TrainTimetable x = Check.loaded("line siding 1 siding 1 siding 1 siding 1 siding 1 siding 1 siding 1 siding;"
                + "train 0 7 1000 5 20;train 6 7 0 1 0;" + "train 0 1 0 1 0;".repeat(6));
        int[][] trains = {{0, 7, 1000, 5, 20, 0}, {6, 7, 0, 1, 0, 0}, {0, 1, 0, 1, 0, 0}};
        for (int t = 0; t < 3; t++) {
            for (int i = 0; i < 6; i++) {
                int train = t == 2 ? 7 : t;
                int what = i;
                edges.due("train(" + train + ", " + i + ")", trains[t][i], () -> x.train(train, what));
            }
        }
        for (int segment = 0; segment < 7; segment++) {
            x.setSupplement(0, segment, 9);
        }
        edges.due("the greatest sum of supplements", 63, () -> x.train(0, 5));
        x.setSupplement(1, 6, 9);
        edges.due("the sum of one supplement", 9, () -> x.train(1, 5));
        edges.due("the sum of none", 0, () -> x.train(7, 5));
    }

    private static void noSuchTrain() {
        edges.promise(9, "Throws `IndexOutOfBoundsException` if there is no such train");
        TrainTimetable none = new TrainTimetable();
        edges.noSuchIndex("train 0 of none", () -> none.train(0, 0));
        edges.noSuchIndex("train -1 of none", () -> none.train(-1, 0));
        TrainTimetable three = Check.loaded(THREE);
        edges.due("train 2 of 3", 0, () -> three.train(2, 0));
        TrainTimetable eight = Check.loaded(FULL);
        edges.due("train 7 of 8", 7, () -> eight.train(7, 1));
        for (int train : new int[] {-1, 8, 9, LEAST, GREATEST}) {
            edges.noSuchIndex("train " + train + " of 3", () -> three.train(train, 0));
            edges.noSuchIndex("train " + train + " of 8", () -> eight.train(train, 5));
        }
        edges.noSuchIndex("train 3 of 3", () -> three.train(3, 0));
    }

    private static void noSuchReport() {
        edges.promise(9, "Throws `IllegalArgumentException` if what is out of range");
        TrainTimetable x = Check.loaded(THREE);
        edges.due("train(1, 0)", 1, () -> x.train(1, 0));
        edges.due("train(1, 5)", 0, () -> x.train(1, 5));
        for (int what : new int[] {-1, 6, 7, 8, LEAST, GREATEST}) {
            edges.noSuchArgument("train(1, " + what + ")", () -> x.train(1, what));
        }
    }

    private static void allTrainsIncluded() {
        edges.promise(10, "Returns a train in the order of a segment, all trains included.");
        TrainTimetable x = Check.loaded("line siding 1 siding 1 siding;train 1 2 5 1 0;train 0 1 4 1 0;");
        for (boolean isActual : new boolean[] {false, true}) {
            edges.due("a train that runs behind segment 0 only", 0, () -> x.order(isActual, 0, 1));
            edges.due("a train that runs over segment 0 only", 1, () -> x.order(isActual, 1, 0));
        }
        // neither of them runs over the segments of both
        x.overtake(1, 1, 0);
        edges.due("overtaken where it does not run", 0, () -> x.order(true, 1, 0));
        edges.due("overtaken where it does not run", 1, () -> x.order(true, 1, 1));
        edges.due("not overtaken before", 1, () -> x.order(true, 0, 0));
    }

    private static void equalStarts() {
        edges.ground(10, "At first all orders are by ascending start times, with equal start times by ascending numbers.");
        int[] starts = {1000, 0, 500, 0, 1000, 1, 0, 999};
        int[] order = {1, 3, 6, 5, 2, 7, 0, 4};
        StringBuilder text = new StringBuilder("line siding 1 plain 1 siding 1 siding;");
        for (int start : starts) {
            text.append("train 0 3 ").append(start).append(" 1 0;");
        }
        TrainTimetable x = Check.loaded(text.toString());
        for (int s = 0; s < 3; s++) {
            for (int i = 0; i < 8; i++) {
                int segment = s;
                int index = i;
                edges.due("planned, " + s + ", " + i, order[i], () -> x.order(false, segment, index));
                edges.due("actual, " + s + ", " + i, order[i], () -> x.order(true, segment, index));
            }
        }
    }

    private static void indices() {
        edges.promise(10, "- `index`: index in the order, from 0");
        TrainTimetable one = Check.loaded("line siding 1 siding;train 0 1 0 1 0;");
        edges.due("the only one", 0, () -> one.order(false, 0, 0));
        edges.noSuchIndex("a second one", () -> one.order(false, 0, 1));
        TrainTimetable eight = Check.loaded(FULL);
        edges.due("the first one of 8", 0, () -> eight.order(true, 6, 0));
        edges.due("the last one of 8", 7, () -> eight.order(true, 6, 7));
    }

    private static void noSuchSegmentOrIndex() {
        edges.promise(10, "Throws `IndexOutOfBoundsException` if there is no such segment or index");
        TrainTimetable none = new TrainTimetable();
        TrainTimetable three = Check.loaded(THREE);
        TrainTimetable eight = Check.loaded(FULL);
        for (boolean isActual : new boolean[] {false, true}) {
            edges.noSuchIndex("no trains", () -> none.order(isActual, 0, 0));
            edges.due("segment 2, index 2", 2, () -> three.order(isActual, 2, 2));
            edges.due("segment 0, index 0", 1, () -> three.order(isActual, 0, 0));
            edges.noSuchIndex("segment 3 of 3", () -> three.order(isActual, 3, 0));
            edges.noSuchIndex("index 3 of 3", () -> three.order(isActual, 0, 3));
            for (int wrong : new int[] {-1, 8, LEAST, GREATEST}) {
                edges.noSuchIndex("segment " + wrong, () -> eight.order(isActual, wrong, 0));
                edges.noSuchIndex("index " + wrong, () -> eight.order(isActual, 0, wrong));
                edges.noSuchIndex("both " + wrong, () -> eight.order(isActual, wrong, wrong));
            }
            edges.noSuchIndex("segment 7 of 7", () -> eight.order(isActual, 7, 0));
        }
    }
}
