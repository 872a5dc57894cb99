/** Promises 18 to 27: disturb, clear, actual, totalDelay, lateTrains, punctuality, isKept, missed, cause, recovery. */
public final class DelayTest {
    private static final Check check = new Check();

    private static final String ONE = "line siding 10 siding 10 siding;train 0 2 0 1 3;";
    private static final String PLAIN =
            "line siding 10 plain 10 siding;headway 5;train 0 2 0 1 0;train 0 2 5 1 0;";
    private static final String CONNECTED = "line siding 10 siding 10 siding;headway 1;"
            + "train 0 1 0 1 0;train 1 2 0 1 0;connect 0 1 1 2;";

    public static void main(String[] args) {
        disturb();
        disturbFailing();
        clear();
        actual();
        actualWithSupplements();
        actualBehindOthers();
        totalDelay();
        lateTrains();
        punctuality();
        isKept();
        keptInTurn();
        missed();
        cause();
        recovery();
        check.end();
    }

    private static void actualTimes(TrainTimetable x, int train, int... want) {
        PlanTest.times(check, x, true, train, want);
    }

    private static void disturb() {
        TrainTimetable x = Check.loaded(ONE);
        check.due("the first disturbance", 1, () -> x.disturb(0, 0, false, 4));
        actualTimes(x, 0, 4, 14, 17, 27);
        check.due("the second disturbance", 2, () -> x.disturb(0, 0, false, 1));
        actualTimes(x, 0, 5, 15, 18, 28);
        check.due("an arrival", 3, () -> x.disturb(0, 1, true, 2));
        actualTimes(x, 0, 5, 17, 20, 30);
        check.due("a departure on the way", 4, () -> x.disturb(0, 1, false, 7));
        actualTimes(x, 0, 5, 17, 27, 37);
        check.due("the last arrival", 5, () -> x.disturb(0, 2, true, 120));
        actualTimes(x, 0, 5, 17, 27, 157);
    }

    private static void disturbFailing() {
        TrainTimetable x = Check.loaded("line siding 10 siding 10 siding 10 siding;train 1 2 0 1 0;");
        check.noSuchIndex("train -1", () -> x.disturb(-1, 1, false, 1));
        check.noSuchIndex("train 1", () -> x.disturb(1, 1, false, 1));
        check.noSuchIndex("station -1", () -> x.disturb(0, -1, false, 1));
        check.noSuchIndex("station 4", () -> x.disturb(0, 4, false, 1));
        check.noSuchIndex("station 4, minutes 0", () -> x.disturb(0, 4, false, 0));
        check.noSuchArgument("minutes 0", () -> x.disturb(0, 1, false, 0));
        check.noSuchArgument("minutes 121", () -> x.disturb(0, 1, false, 121));
        check.noSuchArgument("minutes 121, no such event", () -> x.disturb(0, 0, false, 121));
        check.noSuchElement("no such departure", () -> x.disturb(0, 2, false, 1));
        check.noSuchElement("no such arrival", () -> x.disturb(0, 1, true, 1));
        check.noSuchElement("behind its last station", () -> x.disturb(0, 3, true, 1));
        check.due("refused disturbances do not count", 0, () -> x.count(3));
        for (int i = 1; i <= 20; i++) {
            int number = i;
            check.due("disturbance " + i, number, () -> x.disturb(0, 1, false, number == 20 ? 120 : 1));
        }
        check.wrongState("a 21st disturbance", () -> x.disturb(0, 1, false, 1));
        check.noSuchElement("a 21st one of no event", () -> x.disturb(0, 1, true, 1));
        check.noSuchArgument("a 21st one of no minutes", () -> x.disturb(0, 1, false, 0));
        check.noSuchIndex("a 21st one of no train", () -> x.disturb(1, 1, false, 1));
        check.due("the sum of the 20", 139, () -> x.actual(0, 1, false));
        check.due("the number of the 20", 20, () -> x.count(3));
    }

    private static void clear() {
        TrainTimetable x = Check.loaded(PLAIN);
        x.setSupplement(1, 0, 2);
        x.disturb(0, 0, false, 9);
        x.disturb(1, 0, false, 9);
        x.overtake(0, 0, 1);
        check.due("clear", 2, x::clear);
        check.due("no disturbances then", 0, () -> x.count(3));
        check.due("no delay then", 0, x::totalDelay);
        check.due("the actual order is the planned one", 0, () -> x.order(true, 0, 0));
        check.due("supplements stay", 2, () -> x.supplement(1, 0));
        check.due("clear again", 0, x::clear);
        x.plan(0, 0, 1);
        x.overtake(0, 1, 0);
        check.due("clear without disturbances", 0, x::clear);
        check.due("the actual order is the planned one", 1, () -> x.order(true, 1, 0));
        check.due("a disturbance after clear", 1, () -> x.disturb(0, 0, false, 1));
    }

    private static void actual() {
        TrainTimetable x = Check.loaded("line siding 10 siding 10 siding 10 siding;train 1 2 40 1 0;");
        check.due("departure", 40, () -> x.actual(0, 1, false));
        check.due("arrival", 50, () -> x.actual(0, 2, true));
        check.noSuchElement("no such departure", () -> x.actual(0, 2, false));
        check.noSuchElement("no such arrival", () -> x.actual(0, 1, true));
        check.noSuchElement("before its first station", () -> x.actual(0, 0, false));
        check.noSuchElement("behind its last station", () -> x.actual(0, 3, true));
        check.noSuchIndex("train -1", () -> x.actual(-1, 1, false));
        check.noSuchIndex("train 1", () -> x.actual(1, 1, false));
        check.noSuchIndex("station -1", () -> x.actual(0, -1, true));
        check.noSuchIndex("station 4", () -> x.actual(0, 4, true));
    }

    private static void actualWithSupplements() {
        TrainTimetable x = Check.loaded(ONE);
        x.setSupplement(0, 0, 3);
        x.disturb(0, 0, false, 2);
        actualTimes(x, 0, 2, 13, 16, 26);
        x.disturb(0, 0, false, 2);
        actualTimes(x, 0, 4, 14, 17, 27);
        // an extra of another departure comes behind the arrival, not behind the planned time
        x.clear();
        x.disturb(0, 1, true, 1);
        x.disturb(0, 1, false, 2);
        actualTimes(x, 0, 0, 13, 18, 28);
    }

    private static void actualBehindOthers() {
        TrainTimetable x = Check.loaded(PLAIN);
        actualTimes(x, 0, 0, 10, 10, 20);
        actualTimes(x, 1, 5, 15, 15, 25);
        x.disturb(0, 1, false, 7);
        actualTimes(x, 0, 0, 10, 17, 27);
        actualTimes(x, 1, 5, 22, 22, 32);
        x.clear();
        x.disturb(0, 2, true, 7);
        actualTimes(x, 0, 0, 10, 10, 27);
        actualTimes(x, 1, 5, 15, 15, 32);
        x.clear();
        x.disturb(0, 0, false, 100);
        actualTimes(x, 1, 105, 115, 115, 125);
        x.overtake(0, 0, 1);
        actualTimes(x, 1, 5, 15, 15, 25);
        actualTimes(x, 0, 100, 110, 110, 120);
    }

    private static void totalDelay() {
        TrainTimetable x = Check.loaded(ONE);
        check.due("no delay", 0, x::totalDelay);
        x.disturb(0, 0, false, 4);
        check.due("both arrivals", 8, x::totalDelay);
        x.disturb(0, 1, false, 1);
        check.due("departures do not count", 9, x::totalDelay);
        TrainTimetable y = Check.loaded(PLAIN);
        y.disturb(0, 1, false, 7);
        check.due("of all trains", 7 + 7 + 7, y::totalDelay);
    }

    private static void lateTrains() {
        TrainTimetable x = Check.loaded("line siding 10 siding 10 siding;"
                + "train 0 2 0 1 0;train 0 2 100 1 0;train 0 2 200 1 0;");
        check.due("nobody is late", 0, x::lateTrains);
        x.disturb(2, 2, true, 1);
        check.due("train 2 is late", 4, x::lateTrains);
        x.disturb(0, 0, false, 1);
        check.due("trains 0 and 2 are late", 5, x::lateTrains);
        x.setSupplement(0, 1, 1);
        check.due("train 0 is late on the way only", 4, x::lateTrains);
        check.due("its arrival on the way", 11, () -> x.actual(0, 1, true));
    }

    private static void punctuality() {
        TrainTimetable none = new TrainTimetable();
        check.noSuchElement("no train", () -> none.punctuality(0));
        check.noSuchArgument("no train and threshold -1", () -> none.punctuality(-1));
        TrainTimetable x = Check.loaded("line siding 10 siding;"
                + "train 0 1 0 1 0;train 0 1 200 1 0;train 0 1 400 1 0;");
        check.due("all are punctual", 1.0, () -> x.punctuality(0));
        x.disturb(0, 0, false, 120);
        x.disturb(1, 0, false, 7);
        check.due("threshold 0", 1.0 / 3.0, () -> x.punctuality(0));
        check.due("threshold 6", 1.0 / 3.0, () -> x.punctuality(6));
        check.due("threshold 7", 2.0 / 3.0, () -> x.punctuality(7));
        check.due("threshold 119", 2.0 / 3.0, () -> x.punctuality(119));
        check.due("threshold 120", 1.0, () -> x.punctuality(120));
        check.noSuchArgument("threshold -1", () -> x.punctuality(-1));
        check.noSuchArgument("threshold 121", () -> x.punctuality(121));
        x.disturb(2, 0, false, 1);
        check.due("nobody is punctual", 0.0, () -> x.punctuality(0));
    }

    private static void isKept() {
        TrainTimetable x = Check.loaded(CONNECTED);
        actualTimes(x, 1, 12, 22);
        check.due("kept", true, () -> x.isKept(0));
        x.disturb(0, 1, true, 5);
        check.due("kept by waiting", true, () -> x.isKept(0));
        actualTimes(x, 1, 17, 27);
        x.disturb(0, 1, true, 1);
        check.due("missed", false, () -> x.isKept(0));
        actualTimes(x, 1, 12, 22);
        // B is late by itself, but the connection is missed all the same
        x.disturb(1, 1, false, 50);
        check.due("missed by the planned departure", false, () -> x.isKept(0));
        actualTimes(x, 1, 62, 72);
        check.noSuchIndex("connection -1", () -> x.isKept(-1));
        check.noSuchIndex("connection 1", () -> x.isKept(1));
        check.noSuchIndex("no connections", () -> new TrainTimetable().isKept(0));

        TrainTimetable y = Check.loaded(CONNECTED.replace("headway", "wait 0;headway"));
        y.disturb(0, 1, true, 1);
        check.due("missed without waiting", false, () -> y.isKept(0));
    }

    /** A connection that is kept can make the next one be missed. */
    private static void keptInTurn() {
        TrainTimetable x = Check.loaded("line siding 10 siding 10 siding 10 siding;headway 1;wait 5;"
                + "train 0 1 0 1 0;train 1 2 0 1 0;train 2 3 0 1 0;connect 0 1 1 2;connect 1 2 2 3;");
        actualTimes(x, 2, 25, 35);
        x.disturb(0, 0, false, 3);
        x.disturb(1, 2, true, 3);
        check.due("the first one is kept", true, () -> x.isKept(0));
        check.due("the second one is missed", false, () -> x.isKept(1));
        actualTimes(x, 1, 15, 28);
        actualTimes(x, 2, 25, 35);
        x.disturb(0, 0, false, 3);
        check.due("the first one is missed", false, () -> x.isKept(0));
        check.due("the second one is kept", true, () -> x.isKept(1));
        actualTimes(x, 1, 12, 25);
        actualTimes(x, 2, 28, 38);
    }

    private static void missed() {
        TrainTimetable x = Check.loaded("line siding 10 siding 10 siding;headway 1;wait 0;"
                + "train 0 1 0 1 0;train 0 2 100 1 0;train 1 2 200 1 0;connect 0 1 1 0;connect 0 2 1 0;connect 1 2 1 0;");
        check.due("none is missed", 0, x::missed);
        x.disturb(0, 1, true, 101);
        check.due("one is missed", 1, x::missed);
        x.disturb(0, 1, true, 100);
        check.due("train 1 is behind train 0 and all are missed", 3, x::missed);
        x.clear();
        check.due("none is missed then", 0, x::missed);
    }

    private static void cause() {
        TrainTimetable x = Check.loaded(PLAIN);
        check.due("the planned time of a first departure", 0, () -> x.cause(0, 0, false));
        check.due("the planned time before headway", 0, () -> x.cause(1, 1, true));
        x.disturb(0, 1, false, 7);
        check.due("an extra", 1, () -> x.cause(0, 1, false));
        check.due("the running time", 1, () -> x.cause(0, 2, true));
        check.due("the plain station", 3, () -> x.cause(1, 1, true));
        check.due("the dwell time before headway", 1, () -> x.cause(1, 1, false));
        check.due("a first departure in time", 0, () -> x.cause(1, 0, false));
        x.clear();
        x.disturb(0, 2, true, 7);
        check.due("headway of an arrival", 2, () -> x.cause(1, 2, true));
        x.clear();
        x.disturb(0, 0, false, 1);
        check.due("an extra of a first departure", 1, () -> x.cause(0, 0, false));
        check.due("headway of a departure", 2, () -> x.cause(1, 0, false));
        check.due("the running time before headway and the plain station", 1, () -> x.cause(1, 1, true));
        check.noSuchElement("no such event", () -> x.cause(0, 0, true));
        check.noSuchElement("no such event", () -> x.cause(0, 2, false));
        check.noSuchIndex("train -1", () -> x.cause(-1, 0, false));
        check.noSuchIndex("train 2", () -> x.cause(2, 0, false));
        check.noSuchIndex("station -1", () -> x.cause(0, -1, false));
        check.noSuchIndex("station 3", () -> x.cause(0, 3, true));

        TrainTimetable y = Check.loaded(CONNECTED);
        check.due("the planned time before the connection", 0, () -> y.cause(1, 1, false));
        y.disturb(0, 1, true, 5);
        check.due("a connection", 4, () -> y.cause(1, 1, false));
        y.disturb(1, 1, false, 5);
        check.due("an extra before the connection", 1, () -> y.cause(1, 1, false));
        y.disturb(0, 1, true, 5);
        check.due("an extra without the connection", 1, () -> y.cause(1, 1, false));
    }

    private static void recovery() {
        TrainTimetable x = Check.loaded(ONE);
        check.due("no event is delayed", 0, x::recovery);
        x.setSupplement(0, 1, 5);
        x.disturb(0, 0, false, 4);
        // 4, 14, 17, and 28 in time
        check.due("behind a departure", 18, x::recovery);
        x.setSupplement(0, 1, 0);
        check.due("behind an arrival", 28, x::recovery);
        x.clear();
        check.due("no event is delayed any more", 0, x::recovery);
        x.setSupplement(0, 0, 1);
        x.disturb(0, 0, false, 1);
        check.due("behind the first departure", 2, x::recovery);
        TrainTimetable y = Check.loaded("line siding 10 siding;train 0 1 100 1 0;train 0 1 0 1 0;");
        y.disturb(1, 0, false, 1);
        check.due("an event in time does not count", 12, y::recovery);
    }
}
