/** Promises 11 to 17: planned, plan, setSupplement, supplement, buffer, speed, lastArrival. */
public final class PlanTest {
    private static final Check check = new Check();

    /** A slow train and a fast one behind it; stations 0, 1 and 3 have sidings. */
    private static final String OVERTAKING =
            "line siding 10 siding 10 plain 10 siding;headway 3;train 0 3 0 3 0;train 0 3 1 1 0;";

    public static void main(String[] args) {
        constraints();
        headways();
        plainStations();
        connections();
        planned();
        plan();
        planNeedsNeighbours();
        setSupplement();
        supplement();
        buffer();
        speed();
        lastArrival();
        check.end();
    }

    /** The times of a train: departure from the first station, arrival and departure at the next, and so on. */
    static void times(Check check, TrainTimetable x, boolean isActual, int train, int... want) {
        int station = x.train(train, 0);
        boolean isArrival = false;
        for (int time : want) {
            int s = station;
            boolean arrives = isArrival;
            check.due((isActual ? "actual(" : "planned(") + train + ", " + s + ", " + arrives + ")", time,
                    () -> isActual ? x.actual(train, s, arrives) : x.planned(train, s, arrives));
            station += isArrival ? 0 : 1;
            isArrival = !isArrival;
        }
    }

    private static void planTimes(TrainTimetable x, int train, int... want) {
        times(check, x, false, train, want);
    }

    private static void constraints() {
        TrainTimetable x = Check.loaded("line siding 10 siding 5 plain;train 0 2 7 2 4;");
        planTimes(x, 0, 7, 27, 31, 41);
        x.setSupplement(0, 0, 9);
        planTimes(x, 0, 7, 36, 40, 50);
        x.setSupplement(0, 1, 1);
        planTimes(x, 0, 7, 36, 40, 51);
    }

    private static void headways() {
        TrainTimetable x = Check.loaded("line siding 10 siding;headway 5;train 0 1 0 2 0;train 0 1 1 1 0;");
        planTimes(x, 0, 0, 20);
        planTimes(x, 1, 5, 25);

        // the next train among those that run over the segment
        TrainTimetable y = Check.loaded("line siding 10 siding 10 siding;headway 5;"
                + "train 0 2 0 1 0;train 0 1 1 1 0;train 1 2 2 1 0;");
        planTimes(y, 0, 0, 10, 10, 20);
        planTimes(y, 1, 5, 15);
        planTimes(y, 2, 15, 25);

        TrainTimetable z = Check.loaded("line siding 10 siding;train 0 1 0 1 0;train 0 1 0 1 0;");
        planTimes(z, 1, 3, 13);
    }

    private static void plainStations() {
        String trains = "headway 5;train 0 2 0 1 8;train 0 2 1 1 0;";
        TrainTimetable x = Check.loaded("line siding 10 plain 10 siding;" + trains);
        planTimes(x, 0, 0, 10, 18, 28);
        planTimes(x, 1, 5, 23, 23, 33);

        TrainTimetable y = Check.loaded("line siding 10 siding 10 plain;" + trains);
        planTimes(y, 0, 0, 10, 18, 28);
        planTimes(y, 1, 5, 15, 23, 33);

        // the train ahead does not depart from the plain station
        TrainTimetable z = Check.loaded("line siding 10 plain 10 siding;headway 5;train 0 1 0 1 8;train 0 2 1 1 0;");
        planTimes(z, 1, 5, 15, 15, 25);

        // the train ahead does not run over the segment before the plain station
        TrainTimetable w = Check.loaded("line siding 10 plain 10 siding;headway 5;train 1 2 20 1 0;train 0 2 21 1 0;");
        planTimes(w, 0, 20, 30);
        planTimes(w, 1, 21, 31, 31, 41);
    }

    private static void connections() {
        TrainTimetable x = Check.loaded("line siding 10 siding 10 siding;headway 1;"
                + "train 0 1 0 2 0;train 1 2 0 1 0;connect 0 1 1 6;");
        planTimes(x, 0, 0, 20);
        planTimes(x, 1, 26, 36);

        // each waits for the other one
        TrainTimetable y = Check.loaded("line siding 10 siding 10 siding;headway 1;"
                + "train 0 2 0 1 0;train 0 2 5 1 0;connect 0 1 1 3;connect 1 0 1 4;");
        planTimes(y, 0, 0, 10, 19, 29);
        planTimes(y, 1, 5, 15, 20, 30);

        // the plan waits longer than the waiting time
        TrainTimetable z = Check.loaded("line siding 10 siding 10 siding;wait 0;"
                + "train 0 1 500 1 0;train 1 2 0 1 0;connect 0 1 1 0;");
        planTimes(z, 1, 510, 520);
    }

    private static void planned() {
        TrainTimetable x = Check.loaded("line siding 10 siding 10 siding 10 siding 10 siding;train 1 3 0 1 0;");
        check.noSuchElement("arrival at the first station", () -> x.planned(0, 1, true));
        check.noSuchElement("departure from the last station", () -> x.planned(0, 3, false));
        check.noSuchElement("departure before the first station", () -> x.planned(0, 0, false));
        check.noSuchElement("arrival behind the last station", () -> x.planned(0, 4, true));
        check.due("departure from the first station", 0, () -> x.planned(0, 1, false));
        check.due("arrival at the last station", 20, () -> x.planned(0, 3, true));
        check.noSuchIndex("train -1", () -> x.planned(-1, 1, false));
        check.noSuchIndex("train 1", () -> x.planned(1, 1, false));
        check.noSuchIndex("station -1", () -> x.planned(0, -1, false));
        check.noSuchIndex("station 5", () -> x.planned(0, 5, true));
    }

    private static void plan() {
        TrainTimetable x = Check.loaded(OVERTAKING);
        planTimes(x, 0, 0, 30, 30, 60, 60, 90);
        planTimes(x, 1, 3, 33, 33, 63, 63, 93);
        check.noSuchIndex("station -1", () -> x.plan(-1, 0, 1));
        check.noSuchIndex("the last station", () -> x.plan(3, 0, 1));
        check.noSuchIndex("station 4", () -> x.plan(4, 0, 1));
        check.noSuchIndex("train -1", () -> x.plan(1, -1, 1));
        check.noSuchIndex("train 2", () -> x.plan(1, 0, 2));
        check.noSuchIndex("train 2 at a plain station", () -> x.plan(2, 2, 0));
        check.wrongState("a plain station", () -> x.plan(2, 0, 1));
        check.wrongState("not directly before", () -> x.plan(1, 1, 0));
        check.wrongState("the same train", () -> x.plan(1, 1, 1));
        check.due("refused calls change nothing", 0, () -> x.order(false, 1, 0));

        x.disturb(0, 0, false, 1);
        x.overtake(0, 0, 1);
        check.due("plan(1, 0, 1)", 53, () -> x.plan(1, 0, 1));
        planTimes(x, 0, 0, 30, 36, 66, 66, 96);
        planTimes(x, 1, 3, 33, 33, 43, 43, 53);
        int[] first = {0, 1, 1};
        for (int s = 0; s < 3; s++) {
            int segment = s;
            check.due("planned order of segment " + s, first[s], () -> x.order(false, segment, 0));
            check.due("actual order of segment " + s, first[s], () -> x.order(true, segment, 0));
        }
        check.due("disturbances stay", 1, () -> x.count(3));
        times(check, x, true, 0, 1, 31, 37, 67, 67, 97);
        times(check, x, true, 1, 4, 34, 34, 44, 44, 54);
        check.wrongState("not in all orders", () -> x.plan(0, 0, 1));
        check.wrongState("overtaken already", () -> x.plan(1, 0, 1));
        check.due("plan back", 90, () -> x.plan(1, 1, 0));
        check.due("plan at the first station", 31, () -> x.plan(0, 0, 1));
        planTimes(x, 1, 1, 11, 11, 21, 21, 31);
    }

    private static void planNeedsNeighbours() {
        TrainTimetable x = Check.loaded("line siding 1 siding 1 siding;"
                + "train 0 2 0 1 0;train 0 1 1 1 0;train 0 2 2 1 0;");
        // train 1 does not run over segment 1, but it is in its order
        check.wrongState("a train between", () -> x.plan(1, 0, 2));
        x.plan(1, 1, 2);
        x.plan(1, 0, 2);
        check.due("order", 2, () -> x.order(false, 1, 0));
        check.due("order", 0, () -> x.order(false, 1, 1));
        check.due("order", 1, () -> x.order(false, 1, 2));
        check.due("order before", 0, () -> x.order(false, 0, 0));
    }

    private static void setSupplement() {
        TrainTimetable x = Check.loaded("line siding 10 siding 10 siding 10 siding;train 1 3 0 1 0;");
        check.due("setSupplement", 0, () -> x.setSupplement(0, 1, 9));
        check.due("the previous one", 9, () -> x.setSupplement(0, 1, 4));
        check.due("to 0", 4, () -> x.setSupplement(0, 1, 0));
        x.setSupplement(0, 2, 5);
        planTimes(x, 0, 0, 10, 10, 25);
        check.noSuchArgument("minutes -1", () -> x.setSupplement(0, 1, -1));
        check.noSuchArgument("minutes 10", () -> x.setSupplement(0, 1, 10));
        check.noSuchIndex("train -1", () -> x.setSupplement(-1, 1, 0));
        check.noSuchIndex("train 1", () -> x.setSupplement(1, 1, 0));
        check.noSuchIndex("segment before the first station", () -> x.setSupplement(0, 0, 0));
        check.noSuchIndex("segment -1", () -> x.setSupplement(0, -1, 0));
        check.noSuchIndex("segment 3", () -> x.setSupplement(0, 3, 0));
        check.noSuchIndex("segment 3 and minutes 10", () -> x.setSupplement(0, 3, 10));
        check.due("refused calls change nothing", 5, () -> x.train(0, 5));

        // the actual times follow the plan, and the actual orders stay
        TrainTimetable y = Check.loaded(OVERTAKING);
        y.overtake(1, 0, 1);
        y.setSupplement(0, 0, 5);
        check.due("the actual order stays", 1, () -> y.order(true, 1, 0));
        check.due("the actual time is behind the plan", 35, () -> y.actual(0, 1, true));
    }

    private static void supplement() {
        TrainTimetable x = Check.loaded("line siding 10 siding 10 siding 10 siding;train 0 2 0 1 0;train 1 3 0 1 0;");
        x.setSupplement(0, 1, 7);
        x.setSupplement(1, 2, 3);
        check.due("supplement(0, 0)", 0, () -> x.supplement(0, 0));
        check.due("supplement(0, 1)", 7, () -> x.supplement(0, 1));
        check.due("supplement(1, 1)", 0, () -> x.supplement(1, 1));
        check.due("supplement(1, 2)", 3, () -> x.supplement(1, 2));
        check.noSuchIndex("supplement(0, 2)", () -> x.supplement(0, 2));
        check.noSuchIndex("supplement(1, 0)", () -> x.supplement(1, 0));
        check.noSuchIndex("supplement(1, 3)", () -> x.supplement(1, 3));
        check.noSuchIndex("supplement(0, -1)", () -> x.supplement(0, -1));
        check.noSuchIndex("supplement(-1, 0)", () -> x.supplement(-1, 0));
        check.noSuchIndex("supplement(2, 1)", () -> x.supplement(2, 1));
    }

    private static void buffer() {
        TrainTimetable x = Check.loaded("line siding 10 siding 10 siding;headway 5;"
                + "train 0 2 0 1 0;train 0 1 1 1 0;train 1 2 30 1 0;");
        check.due("buffer(1, 0)", 0, () -> x.buffer(1, 0));
        check.due("buffer(2, 1), behind train 0", 15, () -> x.buffer(2, 1));
        check.noSuchElement("buffer(0, 0)", () -> x.buffer(0, 0));
        check.noSuchElement("buffer(0, 1)", () -> x.buffer(0, 1));
        check.noSuchIndex("buffer(1, 1)", () -> x.buffer(1, 1));
        check.noSuchIndex("buffer(2, 0)", () -> x.buffer(2, 0));
        check.noSuchIndex("buffer(0, 2)", () -> x.buffer(0, 2));
        check.noSuchIndex("buffer(0, -1)", () -> x.buffer(0, -1));
        check.noSuchIndex("buffer(3, 0)", () -> x.buffer(3, 0));
        check.noSuchIndex("buffer(-1, 0)", () -> x.buffer(-1, 0));
        // by the plan, not by what becomes of it
        x.disturb(0, 1, false, 9);
        x.overtake(1, 1, 2);
        x.overtake(1, 0, 2);
        check.due("buffer(2, 1) stays", 15, () -> x.buffer(2, 1));
        x.plan(1, 1, 2);
        x.plan(1, 0, 2);
        check.due("buffer(0, 1) behind train 2", 0, () -> x.buffer(0, 1));
        check.noSuchElement("buffer(2, 1) in front", () -> x.buffer(2, 1));
    }

    private static void speed() {
        TrainTimetable fast = Check.loaded("line siding 1 siding;train 0 1 0 1 0;");
        check.due("speed over one minute", 1.0, () -> fast.speed(0));
        TrainTimetable x = Check.loaded("line siding 10 siding 20 siding 7 siding;"
                + "train 0 2 5 2 4;train 1 3 300 1 0;");
        check.due("speed(0)", 30.0 / 64.0, () -> x.speed(0));
        check.due("speed(1)", 1.0, () -> x.speed(1));
        x.setSupplement(0, 0, 6);
        check.due("speed with a supplement", 30.0 / 70.0, () -> x.speed(0));
        x.disturb(0, 0, false, 50);
        check.due("speed by the plan", 30.0 / 70.0, () -> x.speed(0));
        check.noSuchIndex("speed(-1)", () -> x.speed(-1));
        check.noSuchIndex("speed(2)", () -> x.speed(2));
    }

    private static void lastArrival() {
        check.noSuchElement("lastArrival without trains", () -> new TrainTimetable().lastArrival());
        TrainTimetable x = Check.loaded("line siding 10 siding 10 siding;train 0 2 0 5 0;train 0 1 1 1 0;");
        check.due("lastArrival", 100, x::lastArrival);
        x.disturb(0, 0, false, 50);
        check.due("lastArrival by the plan", 100, x::lastArrival);
        x.setSupplement(0, 1, 1);
        check.due("lastArrival with a supplement", 101, x::lastArrival);
    }
}
