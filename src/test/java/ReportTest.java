/** Promises 7 to 10: count, isSiding, train, order. */
public final class ReportTest {
    private static final Check check = new Check();

    public static void main(String[] args) {
        count();
        isSiding();
        train();
        order();
        check.end();
    }

    private static TrainTimetable example() {
        return Check.loaded("line siding 10 plain 20 siding 5 plain;headway 4;wait 7;"
                + "train 0 3 30 1 2;train 1 3 10 2 0;train 0 2 30 3 5;connect 0 1 2 3;connect 2 0 2 0;");
    }

    private static void count() {
        TrainTimetable x = example();
        x.disturb(0, 0, false, 1);
        x.disturb(0, 0, false, 1);
        x.disturb(0, 0, false, 1);
        int[] counts = {4, 3, 2, 3, 4, 7};
        for (int i = 0; i < counts.length; i++) {
            int what = i;
            check.due("count(" + what + ")", counts[what], () -> x.count(what));
        }
        check.noSuchArgument("count(-1)", () -> x.count(-1));
        check.noSuchArgument("count(6)", () -> x.count(6));
        check.noSuchArgument("count of the least int", () -> x.count(Integer.MIN_VALUE));
    }

    private static void isSiding() {
        TrainTimetable x = example();
        check.due("isSiding(0)", true, () -> x.isSiding(0));
        check.due("isSiding(1)", false, () -> x.isSiding(1));
        check.due("isSiding(2)", true, () -> x.isSiding(2));
        check.due("isSiding(3)", false, () -> x.isSiding(3));
        check.noSuchIndex("isSiding(-1)", () -> x.isSiding(-1));
        check.noSuchIndex("isSiding(4)", () -> x.isSiding(4));
        check.noSuchIndex("isSiding(32)", () -> x.isSiding(32));
    }

    private static void train() {
        TrainTimetable x = example();
        int[][] trains = {{0, 3, 30, 1, 2, 0}, {1, 3, 10, 2, 0, 0}, {0, 2, 30, 3, 5, 0}};
        for (int t = 0; t < 3; t++) {
            for (int i = 0; i < 6; i++) {
                int train = t;
                int what = i;
                check.due("train(" + t + ", " + i + ")", trains[t][i], () -> x.train(train, what));
            }
        }
        x.setSupplement(0, 0, 4);
        x.setSupplement(0, 2, 9);
        x.setSupplement(1, 2, 1);
        check.due("sum of supplements", 13, () -> x.train(0, 5));
        check.due("sum of supplements of another train", 1, () -> x.train(1, 5));
        check.noSuchIndex("train(-1, 0)", () -> x.train(-1, 0));
        check.noSuchIndex("train(3, 0)", () -> x.train(3, 0));
        check.noSuchArgument("train(0, -1)", () -> x.train(0, -1));
        check.noSuchArgument("train(0, 6)", () -> x.train(0, 6));
        check.noSuchIndex("train(3, 6)", () -> x.train(3, 6));
    }

    private static void order() {
        TrainTimetable x = example();
        int[] byStart = {1, 0, 2};
        for (boolean isActual : new boolean[] {false, true}) {
            for (int s = 0; s < 3; s++) {
                for (int i = 0; i < 3; i++) {
                    int segment = s;
                    int index = i;
                    String what = "order(" + isActual + ", " + s + ", " + i + ")";
                    check.due(what, byStart[i], () -> x.order(isActual, segment, index));
                }
            }
        }
        x.overtake(2, 0, 2);
        check.due("actual order before the station", 0, () -> x.order(true, 1, 1));
        check.due("actual order behind the station", 2, () -> x.order(true, 2, 1));
        check.due("actual order behind the station", 0, () -> x.order(true, 2, 2));
        check.due("planned order stays", 0, () -> x.order(false, 2, 1));
        check.noSuchIndex("order(false, -1, 0)", () -> x.order(false, -1, 0));
        check.noSuchIndex("order(false, 3, 0)", () -> x.order(false, 3, 0));
        check.noSuchIndex("order(true, 0, -1)", () -> x.order(true, 0, -1));
        check.noSuchIndex("order(true, 0, 3)", () -> x.order(true, 0, 3));
        check.noSuchIndex("order without trains", () -> new TrainTimetable().order(false, 0, 0));
    }
}
