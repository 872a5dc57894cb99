/** Promises 28 to 33: overtake, bestOvertaking, dispatch, tolerance, leastDelay, distribute. */
public final class DecisionTest {
    private static final Check check = new Check();

    private static final String SLOW_AND_FAST =
            "line siding 10 siding 10 plain 10 siding;headway 3;train 0 3 0 3 0;train 0 3 1 1 0;";
    private static final String ONE = "line siding 10 siding 10 siding;train 0 2 0 1 0;";

    public static void main(String[] args) {
        overtake();
        bestOvertaking();
        bestOfEquals();
        dispatch();
        dispatchAtMost20();
        tolerance();
        toleranceBeyondConnections();
        toleranceAlone();
        leastDelay();
        distribute();
        distributeOfEquals();
        distributeFailing();
        check.end();
    }

    private static void overtake() {
        TrainTimetable x = Check.loaded(SLOW_AND_FAST);
        check.noSuchIndex("station -1", () -> x.overtake(-1, 0, 1));
        check.noSuchIndex("the last station", () -> x.overtake(3, 0, 1));
        check.noSuchIndex("train -1", () -> x.overtake(1, 0, -1));
        check.noSuchIndex("train 2", () -> x.overtake(1, 2, 1));
        check.noSuchIndex("train 2 at a plain station", () -> x.overtake(2, 2, 1));
        check.wrongState("a plain station", () -> x.overtake(2, 0, 1));
        check.wrongState("not directly before", () -> x.overtake(1, 1, 0));
        check.wrongState("the same train", () -> x.overtake(1, 0, 0));
        check.due("overtake(1, 0, 1)", 12, () -> x.overtake(1, 0, 1));
        PlanTest.times(check, x, true, 0, 0, 30, 36, 66, 66, 96);
        PlanTest.times(check, x, true, 1, 3, 33, 33, 63, 63, 93);
        PlanTest.times(check, x, false, 0, 0, 30, 30, 60, 60, 90);
        check.due("actual order", 1, () -> x.order(true, 1, 0));
        check.due("actual order before", 0, () -> x.order(true, 0, 0));
        check.due("planned order", 0, () -> x.order(false, 1, 0));
        check.wrongState("overtaken already", () -> x.overtake(1, 0, 1));
        check.wrongState("not in all orders", () -> x.overtake(0, 0, 1));
        check.due("overtaking back", 0, () -> x.overtake(1, 1, 0));
        x.overtake(1, 0, 1);
        check.due("the planned orders allow it", 53, () -> x.plan(1, 0, 1));
    }

    private static void bestOvertaking() {
        TrainTimetable x = Check.loaded(SLOW_AND_FAST);
        check.due("no delay", -1, x::bestOvertaking);
        x.disturb(0, 0, false, 50);
        int before = x.totalDelay();
        check.due("at station 0", 1, x::bestOvertaking);
        check.due("it is not done", before, x::totalDelay);
        check.due("it is not done", 0, () -> x.order(true, 0, 0));
        check.due("its delay", 150, () -> x.overtake(0, 0, 1));
        check.due("none is better", -1, x::bestOvertaking);

        TrainTimetable y = Check.loaded(SLOW_AND_FAST);
        y.overtake(1, 0, 1);
        check.due("back at station 1", 110, y::bestOvertaking);
        check.due("it is done there", 1, y::dispatch);
        check.due("the order at station 1", 0, () -> y.order(true, 1, 0));
        check.due("the delay then", 0, y::totalDelay);
        // without the siding it is not possible
        TrainTimetable z = Check.loaded("line plain 10 siding;train 0 1 0 1 0;train 0 1 3 1 0;");
        z.disturb(0, 0, false, 50);
        check.due("no siding", -1, z::bestOvertaking);
    }

    private static void bestOfEquals() {
        // both trains begin at station 1: overtaking at station 0 comes to the same
        TrainTimetable x = Check.loaded("line siding 10 siding 10 siding;train 1 2 0 1 0;train 1 2 3 1 0;");
        x.disturb(0, 1, false, 20);
        check.due("the first station", 1, x::bestOvertaking);

        // the pair of trains 2 and 3 is in front of that of trains 0 and 1
        TrainTimetable y = Check.loaded("line siding 10 siding;"
                + "train 0 1 103 1 0;train 0 1 100 1 0;train 0 1 3 1 0;train 0 1 0 1 0;");
        y.disturb(1, 0, false, 20);
        y.disturb(3, 0, false, 20);
        check.due("the lowest a", 10, y::bestOvertaking);
        y.disturb(3, 0, false, 1);
        check.due("the least delay", 32, y::bestOvertaking);
    }

    private static void dispatch() {
        TrainTimetable x = Check.loaded(SLOW_AND_FAST);
        check.due("nothing to do", 0, x::dispatch);
        x.disturb(0, 0, false, 50);
        check.due("one overtaking", 1, x::dispatch);
        check.due("its delay", 150, x::totalDelay);
        check.due("the actual order", 1, () -> x.order(true, 2, 0));
        check.due("the planned order", 0, () -> x.order(false, 2, 0));
        check.due("nothing more", 0, x::dispatch);

        TrainTimetable y = Check.loaded("line siding 10 siding;"
                + "train 0 1 103 1 0;train 0 1 100 1 0;train 0 1 3 1 0;train 0 1 0 1 0;");
        y.disturb(1, 0, false, 20);
        y.disturb(3, 0, false, 20);
        check.due("two overtakings", 2, y::dispatch);
        check.due("their delay", 40, y::totalDelay);
    }

    private static void dispatchAtMost20() {
        TrainTimetable x = Check.loaded("line siding 10 siding;" + "train 0 1 0 1 0;".repeat(8));
        for (int train = 0; train < 8; train++) {
            x.disturb(train, 0, false, 120 - 17 * train);
        }
        check.due("20 overtakings", 20, x::dispatch);
        check.due("the other 8", 8, x::dispatch);
        check.due("no more", 0, x::dispatch);
        check.due("the order is reversed", 7, () -> x.order(true, 0, 0));
        check.due("the order is reversed", 0, () -> x.order(true, 0, 7));
    }

    private static void tolerance() {
        TrainTimetable x = Check.loaded(ONE);
        check.due("no supplement", 0, () -> x.tolerance(0, 0));
        x.setSupplement(0, 1, 4);
        check.due("a supplement behind", 4, () -> x.tolerance(0, 0));
        check.due("a supplement behind", 4, () -> x.tolerance(0, 1));
        x.setSupplement(0, 1, 0);
        x.setSupplement(0, 0, 3);
        check.due("a supplement", 3, () -> x.tolerance(0, 0));
        check.due("a supplement before", 0, () -> x.tolerance(0, 1));
        check.noSuchElement("the last station", () -> x.tolerance(0, 2));
        check.noSuchIndex("station -1", () -> x.tolerance(0, -1));
        check.noSuchIndex("station 3", () -> x.tolerance(0, 3));
        check.noSuchIndex("train -1", () -> x.tolerance(-1, 0));
        check.noSuchIndex("train 1", () -> x.tolerance(1, 0));
        check.noSuchIndex("train 1 at the last station", () -> x.tolerance(1, 2));

        TrainTimetable y = Check.loaded("line siding 10 siding 10 siding 10 siding;train 1 2 0 1 0;");
        check.noSuchElement("before its first station", () -> y.tolerance(0, 0));
        check.noSuchElement("behind its last station", () -> y.tolerance(0, 2));

        // train 0 waits for train 1 for a long time
        TrainTimetable z = Check.loaded("line siding 10 siding 10 siding;"
                + "train 0 2 0 1 0;train 0 1 190 1 0;connect 1 0 1 0;");
        check.due("60 if more would be possible", 60, () -> z.tolerance(0, 0));
        check.due("a disturbance comes behind the arrival, not behind the plan", 60, () -> z.tolerance(0, 1));

        // another train is delayed, not the train itself
        TrainTimetable w = Check.loaded("line siding 10 siding 10 siding;train 0 2 0 1 0;train 0 1 7 1 0;");
        w.setSupplement(0, 1, 9);
        check.due("the train behind would be late", 4, () -> w.tolerance(0, 0));
    }

    /** With 1 or 2 minutes train 0 waits for train 1 and is late, with 3 to 10 it does not. */
    private static void toleranceBeyondConnections() {
        TrainTimetable x = Check.loaded("line siding 10 siding 10 siding;headway 1;wait 2;"
                + "train 1 2 0 1 0;train 0 2 1 1 0;connect 1 0 1 0;");
        x.setSupplement(1, 1, 9);
        check.due("the greatest number", 10, () -> x.tolerance(1, 0));
        x.disturb(1, 0, false, 2);
        check.due("2 minutes are too many", 1, x::lateTrains);
        x.disturb(1, 0, false, 8);
        check.due("10 minutes are not", 0, x::lateTrains);
        x.disturb(1, 0, false, 1);
        check.due("11 minutes are", 2, x::lateTrains);
    }

    private static void toleranceAlone() {
        TrainTimetable x = Check.loaded("line siding 10 siding;train 0 1 0 1 0;train 0 1 50 1 0;");
        x.setSupplement(0, 0, 9);
        x.disturb(0, 0, false, 100);
        x.disturb(1, 0, false, 100);
        x.overtake(0, 0, 1);
        int delay = x.totalDelay();
        check.due("without the other disturbances, in the planned orders", 9, () -> x.tolerance(0, 0));
        check.due("asked again", 9, () -> x.tolerance(0, 0));
        check.due("of another train", 0, () -> x.tolerance(1, 0));
        check.due("nothing is changed", delay, x::totalDelay);
        check.due("nothing is changed", 2, () -> x.count(3));
        check.due("nothing is changed", 1, () -> x.order(true, 0, 0));
    }

    private static void leastDelay() {
        TrainTimetable x = Check.loaded(ONE);
        x.disturb(0, 0, false, 3);
        check.due("minutes 0", 6, () -> x.leastDelay(0, 0));
        check.due("minutes 2", 2, () -> x.leastDelay(0, 2));
        check.due("minutes 3", 0, () -> x.leastDelay(0, 3));
        check.due("minutes 5", 0, () -> x.leastDelay(0, 5));
        x.setSupplement(0, 0, 1);
        x.setSupplement(0, 1, 9);
        int delay = x.totalDelay();
        check.due("in place of those that it has", 6, () -> x.leastDelay(0, 0));
        check.due("in place of those that it has", 2, () -> x.leastDelay(0, 2));
        check.due("nothing is changed", 1, () -> x.supplement(0, 0));
        check.due("nothing is changed", 9, () -> x.supplement(0, 1));
        check.due("nothing is changed", delay, x::totalDelay);
        check.due("nothing is changed", 30, () -> x.planned(0, 2, true));
        // the last station is what the minutes are best for
        TrainTimetable y = Check.loaded(ONE);
        y.disturb(0, 1, false, 3);
        check.due("behind station 1", 0, () -> y.leastDelay(0, 3));
    }

    private static void distribute() {
        TrainTimetable x = Check.loaded("line siding 10 siding 10 siding 10 siding 10 siding;"
                + "train 1 4 0 1 0;train 1 4 200 1 0;");
        x.setSupplement(0, 1, 9);
        x.setSupplement(1, 1, 9);
        x.disturb(0, 2, false, 2);
        x.disturb(0, 3, false, 1);
        // 2 minutes make up for the first disturbance, a third one for the second
        check.due("distribute", 0, () -> x.distribute(0, 3));
        check.due("segment 1", 0, () -> x.supplement(0, 1));
        check.due("segment 2", 2, () -> x.supplement(0, 2));
        check.due("segment 3", 1, () -> x.supplement(0, 3));
        check.due("their sum", 3, () -> x.train(0, 5));
        check.due("another train", 9, () -> x.train(1, 5));
        check.due("the plan", 33, () -> x.planned(0, 4, true));
        check.due("the delay", 0, x::totalDelay);
        check.due("distribute nothing", 2 + 3, () -> x.distribute(0, 0));
        check.due("their sum then", 0, () -> x.train(0, 5));
        check.due("the delay then", 5, x::totalDelay);
    }

    private static void distributeOfEquals() {
        TrainTimetable w = Check.loaded(ONE);
        w.disturb(0, 1, true, 5);
        w.disturb(0, 2, true, 5);
        check.due("more delay than minutes", 3 + 8, () -> w.distribute(0, 2));
        check.due("the delay then", 11, w::totalDelay);
        check.due("the actual arrival then", 15, () -> w.actual(0, 1, true));

        TrainTimetable x = Check.loaded(ONE);
        x.disturb(0, 1, false, 1);
        check.due("distribute", 0, () -> x.distribute(0, 3));
        check.due("the most on the first segment", 2, () -> x.supplement(0, 0));
        check.due("the rest on the second one", 1, () -> x.supplement(0, 1));

        TrainTimetable y = Check.loaded("line siding 1 siding 1 siding 1 siding 1 siding 1 siding 1 siding 1 siding;"
                + "train 0 7 0 1 0;");
        check.due("no delay", 0, () -> y.distribute(0, 5));
        check.due("all on the first segment", 5, () -> y.supplement(0, 0));
        y.disturb(0, 1, false, 1);
        y.disturb(0, 6, false, 1);
        check.due("two delays", 0, () -> y.distribute(0, 5));
        int[] want = {3, 1, 0, 0, 0, 0, 1};
        for (int s = 0; s < 7; s++) {
            int segment = s;
            check.due("segment " + s, want[s], () -> y.supplement(0, segment));
        }
    }

    private static void distributeFailing() {
        TrainTimetable x = Check.loaded(ONE);
        x.setSupplement(0, 1, 7);
        check.noSuchIndex("leastDelay of train -1", () -> x.leastDelay(-1, 0));
        check.noSuchIndex("leastDelay of train 1", () -> x.leastDelay(1, 0));
        check.noSuchIndex("leastDelay of train 1, minutes 6", () -> x.leastDelay(1, 6));
        check.noSuchArgument("leastDelay of minutes -1", () -> x.leastDelay(0, -1));
        check.noSuchArgument("leastDelay of minutes 6", () -> x.leastDelay(0, 6));
        check.noSuchIndex("distribute of train -1", () -> x.distribute(-1, 0));
        check.noSuchIndex("distribute of train 1", () -> x.distribute(1, 0));
        check.noSuchIndex("distribute of train 1, minutes 6", () -> x.distribute(1, 6));
        check.noSuchArgument("distribute of minutes -1", () -> x.distribute(0, -1));
        check.noSuchArgument("distribute of minutes 6", () -> x.distribute(0, 6));
        check.due("nothing is changed", 7, () -> x.supplement(0, 1));
    }
}
