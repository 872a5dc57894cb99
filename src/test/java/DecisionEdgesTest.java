/** The boundary cases of promises 28 to 33, a test for each sentence. */
public final class DecisionEdgesTest {
    private static final int NONE = TrainTimetable.NONE;
    private static final int LEAST = Integer.MIN_VALUE;
    private static final int GREATEST = Integer.MAX_VALUE;

    /** A slow train and a fast one behind it; station 2 is plain. */
    private static final String SLOW_AND_FAST =
            "line siding 10 siding 10 plain 10 siding;headway 3;train 0 3 0 3 0;train 0 3 1 1 0;";
    private static final String ONE = "line siding 10 siding 10 siding;train 0 2 0 1 0;";
    private static final String PAIR = "line siding 10 siding;train 0 1 0 1 0;train 0 1 3 1 0;";
    /** One train that runs from station 1 to station 3 of the stations 0 to 4. */
    private static final String INSIDE = "line siding 10 siding 10 siding 10 siding 10 siding;train 1 3 0 1 0;";
    private static final String LONG = "line siding 1 siding 1 siding 1 siding 1 siding 1 siding 1 siding 1 siding;"
            + "train 0 7 0 1 0;";

    /**
     * With 5 minutes of train 1, train 2 is planned so much later that it waits for train 0, and is late;
     * so it would be better to leave one out.
     */
    private static final String BETTER_WITHOUT = "line siding 10 siding 10 siding 10 siding;headway 1;wait 3;"
            + "train 1 2 90 1 0;train 1 2 100 1 0;train 2 3 0 1 0;connect 0 2 2 10;connect 1 2 2 1;";

    private static final Edges edges = new Edges(28, 33);

    public static void main(String[] args) {
        overtakeActually();
        overtakeAtStations();
        overtakeReturns();
        overtakeOfNoStationOrTrain();
        overtakeImpossible();
        bestOfSeveral();
        bestCode();
        dispatchAtMost20();
        dispatchedNumber();
        tolerated();
        toleratedAlone();
        tolerance0To60();
        toleranceOfNoTrainOrStation();
        toleranceOfNoDeparture();
        leastInPlace();
        leastOfMinutes();
        leastOfAllMinutes();
        leastOfNoTrain();
        leastOfNoMinutes();
        distributeBest();
        distributeMinutes();
        distributeReturns();
        distributeOfNoTrain();
        distributeOfNoMinutes();
        edges.end();
    }

    // ---- promise 28

    private static void overtakeActually() {
        edges.promise(28, "Lets a train overtake another one actually; the plan stays.");
        TrainTimetable x = Check.loaded(SLOW_AND_FAST);
        x.overtake(1, 0, 1);
        int[] actual = {0, 1, 1};
        for (int s = 0; s < 3; s++) {
            int segment = s;
            edges.due("actual order " + s, actual[s], () -> x.order(true, segment, 0));
            edges.due("planned order " + s, 0, () -> x.order(false, segment, 0));
        }
        PlanTest.times(edges, x, false, 0, 0, 30, 30, 60, 60, 90);
        PlanTest.times(edges, x, false, 1, 3, 33, 33, 63, 63, 93);
        // train 1 is not before its planned time, and train 0 waits for it all the same
        PlanTest.times(edges, x, true, 1, 3, 33, 33, 63, 63, 93);
        PlanTest.times(edges, x, true, 0, 0, 30, 36, 66, 66, 96);
    }

    private static void overtakeAtStations() {
        edges.promise(28, "- `station`: number of a station, not the last one");
        TrainTimetable two = Check.loaded(PAIR);
        edges.noSuchIndex("the last station of two", () -> two.overtake(1, 0, 1));
        edges.due("the only station of two", 6, () -> two.overtake(0, 0, 1));
        TrainTimetable eight = Check.loaded(LONG + "train 0 7 0 1 0;");
        edges.noSuchIndex("the last one of eight", () -> eight.overtake(7, 0, 1));
        edges.due("the last but one of eight", 6, () -> eight.overtake(6, 0, 1));
        edges.due("the order before it", 0, () -> eight.order(true, 5, 0));
        edges.due("the order behind it", 1, () -> eight.order(true, 6, 0));
    }

    private static void overtakeReturns() {
        edges.promise(28, "Returns the total delay then.");
        TrainTimetable x = Check.loaded(PAIR);
        edges.due("more than before", 6, () -> x.overtake(0, 0, 1));
        edges.due("none", 0, () -> x.overtake(0, 1, 0));
        x.disturb(0, 0, false, 20);
        edges.due("before", 40, x::totalDelay);
        edges.due("less than before", 20, () -> x.overtake(0, 0, 1));
        edges.due("and it is so", 20, x::totalDelay);
        // neither of them runs behind the station
        TrainTimetable y = Check.loaded("line siding 10 siding 10 siding;train 0 1 0 1 0;train 0 1 3 1 0;");
        edges.due("the same as before", 0, () -> y.overtake(1, 0, 1));
        edges.due("the order", 1, () -> y.order(true, 1, 0));
    }

    private static void overtakeOfNoStationOrTrain() {
        edges.promise(28, "Throws `IndexOutOfBoundsException` if there is no such station (the last one included) or train");
        TrainTimetable x = Check.loaded(SLOW_AND_FAST);
        for (int wrong : new int[] {-1, 8, 9, LEAST, GREATEST}) {
            edges.noSuchIndex("station " + wrong, () -> x.overtake(wrong, 0, 1));
            edges.noSuchIndex("a " + wrong, () -> x.overtake(1, wrong, 1));
            edges.noSuchIndex("b " + wrong, () -> x.overtake(1, 0, wrong));
        }
        edges.noSuchIndex("station 4 of 4", () -> x.overtake(4, 0, 1));
        edges.noSuchIndex("station 3, the last one", () -> x.overtake(3, 0, 1));
        edges.noSuchIndex("a 2 of 2", () -> x.overtake(1, 2, 1));
        edges.noSuchIndex("b 2 of 2", () -> x.overtake(1, 0, 2));
        edges.noSuchIndex("no trains", () -> new TrainTimetable().overtake(0, 0, 0));
        edges.due("station 0 is taken", 18, () -> x.overtake(0, 0, 1));
    }

    private static void overtakeImpossible() {
        edges.promise(28, "Throws `IllegalStateException` if b cannot overtake a there in the actual orders");
        TrainTimetable x = Check.loaded(SLOW_AND_FAST);
        edges.wrongState("a plain station", () -> x.overtake(2, 0, 1));
        edges.wrongState("b is before a", () -> x.overtake(1, 1, 0));
        edges.wrongState("b is a, the first one", () -> x.overtake(1, 0, 0));
        edges.wrongState("b is a, the last one", () -> x.overtake(1, 1, 1));
        x.overtake(1, 0, 1);
        edges.wrongState("b is behind a in the planned orders only", () -> x.overtake(1, 0, 1));
        edges.wrongState("b is behind a on the first segment only", () -> x.overtake(0, 0, 1));
        edges.wrongState("b is behind a on the last segments only", () -> x.overtake(0, 1, 0));
        edges.due("b is behind a from there on", 0, () -> x.overtake(1, 1, 0));
        TrainTimetable y = Check.loaded("line siding 1 siding;" + "train 0 1 0 1 0;".repeat(3));
        edges.wrongState("a train between", () -> y.overtake(0, 0, 2));
        edges.due("no train between", 6, () -> y.overtake(0, 1, 2));
    }

    // ---- promise 29

    private static void bestOfSeveral() {
        edges.promise(29, "Finds the best actual overtaking: the one after which the total delay is least; of several the"
                + " one at the first station, then with the lowest a, then with the lowest b.");
        // both trains begin at station 1, so overtaking at stations 0 and 1 is the same
        TrainTimetable x = Check.loaded("line siding 10 siding 10 siding;train 1 2 3 1 0;train 1 2 0 1 0;");
        x.disturb(1, 1, false, 20);
        edges.due("the first station", 10, x::bestOvertaking);

        // trains 3 and 2 at station 0 are as good as trains 0 and 1, for whom station 0 is too early
        TrainTimetable y = Check.loaded("line siding 10 siding 10 siding;"
                + "train 1 2 500 1 0;train 1 2 503 1 0;train 0 1 3 1 0;train 0 1 0 1 0;train 0 1 501 1 0;");
        y.overtake(1, 4, 1);
        y.disturb(3, 0, false, 20);
        y.disturb(0, 1, false, 20);
        edges.due("the first station, with the higher a", 32, y::bestOvertaking);
        y.disturb(0, 1, false, 1);
        edges.due("the least delay, at the later station", 101, y::bestOvertaking);

        // the pair of trains 3 and 2 is as good as that of trains 1 and 0 behind it
        TrainTimetable z = Check.loaded("line siding 10 siding;"
                + "train 0 1 103 1 0;train 0 1 100 1 0;train 0 1 3 1 0;train 0 1 0 1 0;");
        z.disturb(1, 0, false, 20);
        z.disturb(3, 0, false, 20);
        edges.due("the lowest a", 10, z::bestOvertaking);
        z.disturb(3, 0, false, 1);
        edges.due("the least delay, with the higher a", 32, z::bestOvertaking);
        edges.due("nothing is done", 3, () -> z.order(true, 0, 0));
        edges.due("nothing is done", 82, z::totalDelay);
    }

    private static void bestCode() {
        edges.promise(29, "Returns 100 * station + 10 * a + b; NONE if none decreases the total delay.");
        edges.due("no trains", NONE, () -> new TrainTimetable().bestOvertaking());
        edges.due("one train", NONE, () -> Check.loaded(ONE).bestOvertaking());
        edges.due("no delay", NONE, () -> Check.loaded(PAIR).bestOvertaking());
        // train 0 behind train 1 is 6 minutes late or more
        for (int minutes = 1; minutes <= 4; minutes++) {
            TrainTimetable x = Check.loaded(PAIR);
            x.disturb(0, 0, false, minutes);
            edges.due("the delay of both by " + minutes, 2 * minutes, x::totalDelay);
            edges.due("by " + minutes, minutes <= 3 ? NONE : 1, x::bestOvertaking);
        }
        TrainTimetable three = Check.loaded(PAIR);
        three.disturb(0, 0, false, 3);
        edges.due("neither more nor less", 6, () -> three.overtake(0, 0, 1));
        TrainTimetable plain = Check.loaded(PAIR.replace("line siding", "line plain"));
        plain.disturb(0, 0, false, 120);
        edges.due("no siding", NONE, plain::bestOvertaking);
        TrainTimetable last = Check.loaded("line plain 1 plain 1 plain 1 plain 1 plain 1 plain 1 siding 1 plain;"
                + "train 6 7 900 1 0;".repeat(6) + "train 6 7 3 1 0;train 6 7 0 1 0;");
        last.disturb(7, 6, false, 20);
        edges.due("the greatest code", 676, last::bestOvertaking);
        TrainTimetable lowest = Check.loaded("line plain 1 plain 1 plain 1 plain 1 plain 1 plain 1 siding 1 plain;"
                + "train 6 7 0 1 0;train 6 7 3 1 0;");
        lowest.disturb(0, 6, false, 20);
        edges.due("the lowest trains at the last station", 601, lowest::bestOvertaking);
        // what has been found is what is done
        last.dispatch();
        lowest.dispatch();
        for (int s = 0; s < 7; s++) {
            int segment = s;
            edges.due("the first one on segment " + s, s == 6 ? 6 : 7, () -> last.order(true, segment, 0));
            edges.due("the second one on segment " + s, s == 6 ? 7 : 6, () -> last.order(true, segment, 1));
            edges.due("the first one on segment " + s, s == 6 ? 1 : 0, () -> lowest.order(true, segment, 0));
        }
    }

    // ---- promise 30

    /** Trains that start at once, with delays by which so many overtakings are of use. */
    private static TrainTimetable crowd(int... minutes) {
        TrainTimetable x = Check.loaded("line siding 10 siding;" + "train 0 1 0 1 0;".repeat(minutes.length));
        for (int train = 0; train < minutes.length; train++) {
            x.disturb(train, 0, false, minutes[train]);
        }
        return x;
    }

    private static void dispatchAtMost20() {
        edges.promise(30, "Does the best actual overtaking as long as there is one, but at most 20 times.");
        // seven trains in reverse order are 21 pairs, of which one may be in order already
        TrainTimetable twenty = crowd(120, 103, 86, 69, 52, 18, 35);
        edges.due("20 are enough", 20, twenty::dispatch);
        edges.due("there is none left", NONE, twenty::bestOvertaking);
        edges.due("none more", 0, twenty::dispatch);
        TrainTimetable more = crowd(120, 103, 86, 69, 52, 35, 18);
        edges.due("20 of 21", 20, more::dispatch);
        edges.due("there is one left", true, () -> more.bestOvertaking() != NONE);
        edges.due("the 21st", 1, more::dispatch);
        edges.due("none more", 0, more::dispatch);
        TrainTimetable most = crowd(120, 103, 86, 69, 52, 35, 18, 1);
        edges.due("20 of 28", 20, most::dispatch);
        edges.due("the others", 8, most::dispatch);
        for (int i = 0; i < 8; i++) {
            int index = i;
            edges.due("the order at last", 7 - i, () -> most.order(true, 0, index));
            edges.due("the plan stays", i, () -> most.order(false, 0, index));
        }
    }

    private static void dispatchedNumber() {
        edges.promise(30, "Returns the number of overtakings.");
        edges.due("no trains", 0, () -> new TrainTimetable().dispatch());
        edges.due("one train", 0, () -> Check.loaded(ONE).dispatch());
        TrainTimetable x = Check.loaded(PAIR);
        edges.due("no delay", 0, x::dispatch);
        x.disturb(0, 0, false, 3);
        edges.due("none decreases the delay", 0, x::dispatch);
        edges.due("the order stays", 0, () -> x.order(true, 0, 0));
        x.disturb(0, 0, false, 1);
        edges.due("one", 1, x::dispatch);
        edges.due("its order", 1, () -> x.order(true, 0, 0));
        edges.due("its delay", 6, x::totalDelay);
        edges.due("none more", 0, x::dispatch);
        // another one would be better than none, but not better than the first one alone
        TrainTimetable y = Check.loaded(PAIR + "train 0 1 100 1 0;train 0 1 103 1 0;");
        y.disturb(0, 0, false, 20);
        edges.due("one of four trains", 1, y::dispatch);
        edges.due("its delay", 20, y::totalDelay);
    }

    // ---- promise 31

    private static void tolerated() {
        edges.promise(31, "the greatest number of minutes for which a single disturbance of its departure,");
        edges.due("nothing to spare", 0, () -> Check.loaded(ONE).tolerance(0, 0));
        TrainTimetable x = Check.loaded(ONE);
        x.setSupplement(0, 1, 9);
        edges.due("a supplement behind", 9, () -> x.tolerance(0, 0));
        edges.due("as many do no harm", true, () -> x.disturb(0, 0, false, 9) == 1 && x.lateTrains() == 0);
        edges.due("one more does", true, () -> x.disturb(0, 0, false, 1) == 2 && x.lateTrains() == 1);
        // of 1 to 10 minutes, 1 and 2 do harm: train 0 waits for train 1 then
        TrainTimetable y = Check.loaded("line siding 10 siding 10 siding;headway 1;wait 2;"
                + "train 1 2 0 1 0;train 0 2 1 1 0;connect 1 0 1 0;");
        y.setSupplement(1, 1, 9);
        edges.due("the greatest number", 10, () -> y.tolerance(1, 0));

        edges.promise(31, "would not delay the arrival of any train at its last station.");
        // train 0 can make up for 9 minutes behind station 1, and train 1 is just behind it
        TrainTimetable ends = Check.loaded(ONE + "train 0 1 3 1 0;");
        ends.setSupplement(0, 1, 9);
        edges.due("train 1 would be late at its last station", 0, () -> ends.tolerance(0, 0));
        TrainTimetable goesOn = Check.loaded(ONE + "train 0 2 3 1 0;");
        goesOn.setSupplement(0, 1, 9);
        edges.due("train 1 would be late on the way only", 9, () -> goesOn.tolerance(0, 0));
    }

    private static void toleratedAlone() {
        edges.promise(31, "without all others and in the planned orders,");
        TrainTimetable x = Check.loaded("line siding 10 siding;train 0 1 0 1 0;train 0 1 50 1 0;");
        x.setSupplement(0, 0, 9);
        for (int i = 0; i < 20; i++) {
            x.disturb(i % 2, i / 2 % 2, i / 2 % 2 == 1, 120);
        }
        x.overtake(0, 0, 1);
        String before = State.of(x);
        edges.due("of train 0, though there are 20 disturbances", 9, () -> x.tolerance(0, 0));
        edges.due("of train 1", 0, () -> x.tolerance(1, 0));
        edges.equal("nothing is changed", before, State.of(x));
        // what was asked before is no disturbance, either
        TrainTimetable y = Check.loaded(ONE);
        y.setSupplement(0, 1, 9);
        edges.due("of the second station", 9, () -> y.tolerance(0, 1));
        edges.due("of the first station", 9, () -> y.tolerance(0, 0));
        edges.due("of the second station again", 9, () -> y.tolerance(0, 1));
        Check.put(y, ONE + "train 0 2 10 1 0;");
        y.load();
        y.setSupplement(1, 1, 9);
        edges.due("of another line", 9, () -> y.tolerance(1, 0));
    }

    private static void tolerance0To60() {
        edges.promise(31, "Returns the number of minutes, 0 to 60 (60 also if more would be possible).");
        edges.due("none to spare", 0, () -> Check.loaded(ONE).tolerance(0, 1));
        // at station 1, train 0 waits for train 1 for as many minutes as train 1 starts later
        for (int minutes : new int[] {1, 58, 59, 60, 61, 62, 500}) {
            TrainTimetable x = Check.loaded("line siding 10 siding 10 siding;headway 1;"
                    + "train 0 2 0 1 0;train 0 1 " + minutes + " 1 0;connect 1 0 1 0;");
            edges.due(minutes + " to spare", Math.min(minutes, 60), () -> x.tolerance(0, 1));
        }
    }

    private static void toleranceOfNoTrainOrStation() {
        edges.promise(31, "Throws `IndexOutOfBoundsException` if there is no such train or station");
        TrainTimetable x = Check.loaded(INSIDE);
        for (int wrong : new int[] {-1, 8, 9, LEAST, GREATEST}) {
            edges.noSuchIndex("train " + wrong, () -> x.tolerance(wrong, 2));
            edges.noSuchIndex("station " + wrong, () -> x.tolerance(0, wrong));
        }
        edges.noSuchIndex("train 1 of 1", () -> x.tolerance(1, 2));
        edges.noSuchIndex("station 5 of 5", () -> x.tolerance(0, 5));
        edges.noSuchIndex("no trains", () -> new TrainTimetable().tolerance(0, 0));
    }

    private static void toleranceOfNoDeparture() {
        edges.promise(31, "Throws `NoSuchElementException` if the train does not depart there");
        TrainTimetable x = Check.loaded(INSIDE);
        edges.noSuchElement("before its first station", () -> x.tolerance(0, 0));
        edges.due("its first station", 0, () -> x.tolerance(0, 1));
        edges.due("its last departure", 0, () -> x.tolerance(0, 2));
        edges.noSuchElement("its last station", () -> x.tolerance(0, 3));
        edges.noSuchElement("behind its last station, the line's last one", () -> x.tolerance(0, 4));
    }

    // ---- promise 32

    private static void leastInPlace() {
        edges.promise(32, "in place of those that it has (with all else as it is; the planned times are those with the new"
                + " supplements).");
        TrainTimetable x = Check.loaded(ONE + "train 0 2 500 1 0;");
        x.disturb(0, 0, false, 3);
        x.disturb(1, 0, false, 3);
        x.setSupplement(0, 0, 9);
        x.setSupplement(0, 1, 9);
        x.setSupplement(1, 1, 2);
        // the other train stays 3 and 1 minutes late
        edges.due("nothing in place of 18 minutes", 6 + 4, () -> x.leastDelay(0, 0));
        edges.due("a minute in place of 18", 4 + 4, () -> x.leastDelay(0, 1));
        edges.due("the supplements stay", 18, () -> x.train(0, 5));
        edges.due("the delay stays", 4, x::totalDelay);
        edges.due("the planned times stay", 38, () -> x.planned(0, 2, true));
        edges.due("the actual times stay", 38, () -> x.actual(0, 2, true));
        // of a train with many segments, and then of one with few
        TrainTimetable z = Check.loaded(LONG + "train 3 4 500 1 0;");
        for (int segment = 0; segment < 7; segment++) {
            z.setSupplement(0, segment, 9);
        }
        edges.due("of the long way", 0, () -> z.leastDelay(0, 5));
        edges.due("of the short way", 0, () -> z.leastDelay(1, 5));
        edges.due("the supplements of the long way", 63, () -> z.train(0, 5));
        edges.due("the supplements of the short way", 0, () -> z.train(1, 5));
        // in the actual orders
        TrainTimetable y = Check.loaded(PAIR);
        y.overtake(0, 0, 1);
        edges.due("with the actual orders", 6, () -> y.leastDelay(0, 0));
        edges.due("train 1 is planned behind the supplements, too", 6, () -> y.leastDelay(0, 5));
        edges.due("the order stays", 1, () -> y.order(true, 0, 0));
    }

    private static void leastOfMinutes() {
        edges.promise(32, "- `minutes`: 0 to 5, the sum of the supplements");
        TrainTimetable x = Check.loaded(LONG);
        x.disturb(0, 0, false, 6);
        for (int minutes = 0; minutes <= 5; minutes++) {
            int sum = minutes;
            edges.due("7 segments, minutes " + minutes, 7 * (6 - sum), () -> x.leastDelay(0, sum));
        }
        TrainTimetable one = Check.loaded("line siding 1 siding;train 0 1 0 1 0;");
        one.disturb(0, 1, true, 6);
        for (int minutes = 0; minutes <= 5; minutes++) {
            int sum = minutes;
            edges.due("1 segment, minutes " + minutes, 6 - sum, () -> one.leastDelay(0, sum));
        }
    }

    private static void leastOfAllMinutes() {
        edges.promise(32, "Returns the least total delay that can be reached by distributing minutes over the supplements"
                + " of a train");
        TrainTimetable x = Check.loaded(BETTER_WITHOUT);
        x.disturb(0, 2, true, 9);
        edges.due("no minutes", 9, () -> x.leastDelay(1, 0));
        edges.due("4 minutes", 9, () -> x.leastDelay(1, 4));
        edges.due("5 minutes, all of them", 9 + 3, () -> x.leastDelay(1, 5));
        edges.due("5 minutes distributed", 9 + 3, () -> x.distribute(1, 5));
        edges.due("their sum", 5, () -> x.train(1, 5));
        edges.due("4 minutes distributed", 9, () -> x.distribute(1, 4));
        edges.due("their sum", 4, () -> x.train(1, 5));
    }

    private static void leastOfNoTrain() {
        edges.promise(32, "Throws `IndexOutOfBoundsException` if there is no such train");
        TrainTimetable x = Check.loaded("line siding 1 siding;" + "train 0 1 0 1 0;".repeat(8));
        edges.due("train 0 of 8", 0, () -> x.leastDelay(0, 0));
        edges.due("train 7 of 8", 0, () -> x.leastDelay(7, 5));
        for (int wrong : new int[] {-1, 8, 9, LEAST, GREATEST}) {
            edges.noSuchIndex("train " + wrong, () -> x.leastDelay(wrong, 0));
        }
        edges.noSuchIndex("train 1 of 1", () -> Check.loaded(ONE).leastDelay(1, 0));
        edges.noSuchIndex("no trains", () -> new TrainTimetable().leastDelay(0, 0));
    }

    private static void leastOfNoMinutes() {
        edges.promise(32, "Throws `IllegalArgumentException` if minutes is out of range");
        TrainTimetable x = Check.loaded(ONE);
        for (int wrong : new int[] {-1, 6, 9, LEAST, GREATEST}) {
            edges.noSuchArgument("minutes " + wrong, () -> x.leastDelay(0, wrong));
        }
        edges.due("minutes 0", 0, () -> x.leastDelay(0, 0));
        edges.due("minutes 5", 0, () -> x.leastDelay(0, 5));
    }

    // ---- promise 33

    private static void supplements(TrainTimetable x, int train, int... want) {
        int first = x.train(train, 0);
        for (int i = 0; i < want.length; i++) {
            int segment = first + i;
            edges.due("supplement of segment " + segment, want[i], () -> x.supplement(train, segment));
        }
    }

    private static void distributeBest() {
        edges.promise(33, "of several distributions the one with the most minutes on the first segment, then with the most"
                + " on the second one, and so on.");
        TrainTimetable x = Check.loaded(LONG);
        x.distribute(0, 5);
        supplements(x, 0, 5, 0, 0, 0, 0, 0, 0);
        // only the last segment is of use
        x.disturb(0, 6, false, 5);
        x.distribute(0, 5);
        supplements(x, 0, 0, 0, 0, 0, 0, 0, 5);
        // one of the five minutes is enough there
        x.clear();
        x.disturb(0, 6, false, 1);
        x.distribute(0, 5);
        supplements(x, 0, 4, 0, 0, 0, 0, 0, 1);
        x.disturb(0, 2, false, 2);
        x.distribute(0, 5);
        supplements(x, 0, 2, 0, 2, 0, 0, 0, 1);
        x.disturb(0, 1, false, 1);
        x.distribute(0, 5);
        supplements(x, 0, 1, 1, 2, 0, 0, 0, 1);
        // another train is late in any case
        TrainTimetable late = Check.loaded(LONG + "train 0 7 500 1 0;");
        late.disturb(1, 0, false, 120);
        late.distribute(0, 5);
        supplements(late, 0, 5, 0, 0, 0, 0, 0, 0);
        late.disturb(0, 3, false, 1);
        late.distribute(0, 5);
        supplements(late, 0, 4, 0, 0, 1, 0, 0, 0);
        // a train that runs over the segments 1 and 2 only
        TrainTimetable y = Check.loaded(INSIDE);
        y.disturb(0, 2, false, 2);
        y.distribute(0, 5);
        supplements(y, 0, 3, 2);
    }

    private static void distributeMinutes() {
        edges.promise(33, "- `minutes`: 0 to 5, the sum of the supplements");
        TrainTimetable x = Check.loaded(LONG);
        for (int segment = 0; segment < 7; segment++) {
            x.setSupplement(0, segment, 9);
        }
        for (int minutes = 5; minutes >= 0; minutes--) {
            int sum = minutes;
            x.distribute(0, minutes);
            edges.due("the sum", sum, () -> x.train(0, 5));
            edges.due("the plan", 7 + sum, () -> x.planned(0, 7, true));
        }
        supplements(x, 0, 0, 0, 0, 0, 0, 0, 0);
        TrainTimetable one = Check.loaded("line siding 1 siding;train 0 1 0 1 0;");
        one.distribute(0, 5);
        supplements(one, 0, 5);
        one.distribute(0, 0);
        supplements(one, 0, 0);
    }

    private static void distributeReturns() {
        edges.promise(33, "Distributes minutes over the supplements of a train so that the total delay is as leastDelay()"
                + " says");
        TrainTimetable x = Check.loaded(ONE + "train 0 2 0 1 0;train 0 2 10 1 3;");
        x.disturb(0, 0, false, 4);
        x.disturb(0, 1, false, 3);
        x.disturb(1, 1, true, 2);
        for (int t = 0; t < 3; t++) {
            for (int m = 0; m <= 5; m++) {
                int train = t;
                int minutes = m;
                int least = x.leastDelay(train, minutes);
                edges.due("train " + t + ", minutes " + m, least, () -> x.distribute(train, minutes));
                edges.due("the total delay then", least, x::totalDelay);
                edges.due("the sum then", minutes, () -> x.train(train, 5));
            }
        }
        edges.due("disturbances stay", 3, () -> x.count(3));
    }

    private static void distributeOfNoTrain() {
        edges.promise(33, "Throws `IndexOutOfBoundsException` if there is no such train");
        TrainTimetable x = Check.loaded("line siding 1 siding;" + "train 0 1 0 1 0;".repeat(8));
        edges.due("train 0 of 8", 0, () -> x.distribute(0, 0));
        edges.due("train 7 of 8", 0, () -> x.distribute(7, 5));
        for (int wrong : new int[] {-1, 8, 9, LEAST, GREATEST}) {
            edges.noSuchIndex("train " + wrong, () -> x.distribute(wrong, 0));
        }
        edges.noSuchIndex("train 1 of 1", () -> Check.loaded(ONE).distribute(1, 0));
        edges.noSuchIndex("no trains", () -> new TrainTimetable().distribute(0, 0));
    }

    private static void distributeOfNoMinutes() {
        edges.promise(33, "Throws `IllegalArgumentException` if minutes is out of range");
        TrainTimetable x = Check.loaded(ONE);
        x.setSupplement(0, 1, 9);
        for (int wrong : new int[] {-1, 6, 9, LEAST, GREATEST}) {
            edges.noSuchArgument("minutes " + wrong, () -> x.distribute(0, wrong));
        }
        supplements(x, 0, 0, 9);
        edges.due("minutes 0", 0, () -> x.distribute(0, 0));
        edges.due("minutes 5", 0, () -> x.distribute(0, 5));
    }
}
