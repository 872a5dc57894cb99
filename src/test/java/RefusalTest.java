import java.util.Set;
import java.util.TreeSet;
import java.util.function.Function;

/** All promises: which exception a refused call throws, that it changes nothing, and an object's last call. */
public final class RefusalTest {
    private static final String CHANGES_NOTHING =
            "A call that throws an exception changes nothing, unless its comment says otherwise.";
    private static final String NAMED_FIRST =
            "If several exceptions apply to a call, the one that is named first in its throws clause is thrown.";
    private static final String INDEX = "IndexOutOfBoundsException";
    private static final String ARGUMENT = "IllegalArgumentException";
    private static final String ELEMENT = "NoSuchElementException";
    private static final String STATE = "IllegalStateException";

    /** There are the trains 0 to 2, the stations 0 to 3, of which 1 is plain, and the connections 0 and 1. */
    private static final String TEXT = "line siding 10 plain 20 siding 5 siding;headway 4;wait 7;"
            + "train 0 3 30 1 2;train 1 3 10 2 0;train 0 2 30 3 5;connect 0 1 2 3;connect 2 0 2 0;";
    private static final String BUFFER = "line siding 7 siding 8 siding";
    private static final String REST = ";train 0 2 5 1 0;";

    private static final Edges edges = new Edges(1, 0);
    private static final Set<Integer> refusing = new TreeSet<>();

    public static void main(String[] args) throws Exception {
        reports();
        plans();
        delays();
        decisions();
        text();
        fullBuffer();
        withoutTrains();
        failedLoad();
        everyPromise();
        severalExceptions();
        severalExceptionsOfDisturb();
        the512thCall();
        the512thCallOfTheText();
        edges.end();
    }

    /** A timetable on which everything has been done, with the beginning of a text in its buffer. */
    private static TrainTimetable example(int disturbances) {
        TrainTimetable x = Check.loaded(TEXT);
        Check.put(x, "line ?");
        Check.outcome(x::load);
        x.setSupplement(0, 1, 4);
        x.setSupplement(1, 2, 9);
        x.plan(2, 0, 2);
        for (int i = 0; i < disturbances; i++) {
            x.disturb(i % 3, 2, true, 7 + i);
        }
        x.overtake(2, 1, 2);
        Check.put(x, BUFFER);
        return x;
    }

    /** The state, and what becomes of the text in the buffer. */
    private static String stateAndBuffer(TrainTimetable x) {
        String state = State.of(x);
        Check.put(x, REST);
        return state + Check.outcome(x::load) + "\n" + State.of(x);
    }

    private static void refused(int promise, String exception, String what, Function<TrainTimetable, Object> call) {
        refused(promise, exception, what, 3, call);
    }

    private static void refused(int promise, String exception, String what, int disturbances,
            Function<TrainTimetable, Object> call) {
        edges.ground(promise, CHANGES_NOTHING);
        refusing.add(promise);
        TrainTimetable x = example(disturbances);
        edges.due(what, exception, () -> call.apply(x));
        edges.due(what + " again", exception, () -> call.apply(x));
        edges.equal("the state after " + what, stateAndBuffer(example(disturbances)), stateAndBuffer(x));
    }

    private static void text() {
        refused(3, INDEX, "truncate(-1)", x -> x.truncate(-1));
        refused(3, INDEX, "truncate(30)", x -> x.truncate(BUFFER.length() + 1));
    }

    private static void reports() {
        refused(7, ARGUMENT, "count(-1)", x -> x.count(-1));
        refused(7, ARGUMENT, "count(6)", x -> x.count(6));
        refused(8, INDEX, "isSiding(-1)", x -> x.isSiding(-1));
        refused(8, INDEX, "isSiding(4)", x -> x.isSiding(4));
        refused(9, INDEX, "train(3, 0)", x -> x.train(3, 0));
        refused(9, ARGUMENT, "train(0, 6)", x -> x.train(0, 6));
        refused(10, INDEX, "order(false, 3, 0)", x -> x.order(false, 3, 0));
        refused(10, INDEX, "order(true, 0, 3)", x -> x.order(true, 0, 3));
    }

    private static void plans() {
        refused(11, INDEX, "planned(3, 0, false)", x -> x.planned(3, 0, false));
        refused(11, ELEMENT, "planned(0, 0, true)", x -> x.planned(0, 0, true));
        refused(12, INDEX, "plan(3, 1, 2)", x -> x.plan(3, 1, 2));
        refused(12, INDEX, "plan(2, 1, 3)", x -> x.plan(2, 1, 3));
        refused(12, STATE, "plan(1, 1, 0)", x -> x.plan(1, 1, 0));
        refused(12, STATE, "plan(0, 1, 0)", x -> x.plan(0, 1, 0));
        refused(12, STATE, "plan(2, 2, 1)", x -> x.plan(2, 2, 1));
        refused(13, INDEX, "setSupplement(1, 0, 1)", x -> x.setSupplement(1, 0, 1));
        refused(13, INDEX, "setSupplement(2, 2, 1)", x -> x.setSupplement(2, 2, 1));
        refused(13, ARGUMENT, "setSupplement(0, 0, 10)", x -> x.setSupplement(0, 0, 10));
        refused(14, INDEX, "supplement(1, 0)", x -> x.supplement(1, 0));
        refused(15, INDEX, "buffer(1, 0)", x -> x.buffer(1, 0));
        refused(15, ELEMENT, "buffer(1, 1)", x -> x.buffer(1, 1));
        refused(16, INDEX, "speed(3)", x -> x.speed(3));
    }

    private static void delays() {
        refused(18, INDEX, "disturb(3, 0, false, 1)", x -> x.disturb(3, 0, false, 1));
        refused(18, INDEX, "disturb(0, 4, false, 1)", x -> x.disturb(0, 4, false, 1));
        refused(18, ARGUMENT, "disturb(0, 0, false, 121)", x -> x.disturb(0, 0, false, 121));
        refused(18, ELEMENT, "disturb(0, 0, true, 1)", x -> x.disturb(0, 0, true, 1));
        refused(18, STATE, "disturb(0, 0, false, 1)", 20, x -> x.disturb(0, 0, false, 1));
        refused(20, INDEX, "actual(0, 4, true)", x -> x.actual(0, 4, true));
        refused(20, ELEMENT, "actual(2, 2, false)", x -> x.actual(2, 2, false));
        refused(23, ARGUMENT, "punctuality(121)", x -> x.punctuality(121));
        refused(24, INDEX, "isKept(2)", x -> x.isKept(2));
        refused(26, INDEX, "cause(3, 0, false)", x -> x.cause(3, 0, false));
        refused(26, ELEMENT, "cause(2, 3, true)", x -> x.cause(2, 3, true));
    }

    private static void decisions() {
        refused(28, INDEX, "overtake(3, 2, 1)", x -> x.overtake(3, 2, 1));
        refused(28, INDEX, "overtake(2, 3, 1)", x -> x.overtake(2, 3, 1));
        refused(28, STATE, "overtake(1, 1, 0)", x -> x.overtake(1, 1, 0));
        refused(28, STATE, "overtake(2, 1, 2)", x -> x.overtake(2, 1, 2));
        refused(28, STATE, "overtake(0, 0, 2)", x -> x.overtake(0, 0, 2));
        refused(31, INDEX, "tolerance(3, 0)", x -> x.tolerance(3, 0));
        refused(31, ELEMENT, "tolerance(0, 3)", x -> x.tolerance(0, 3));
        refused(32, INDEX, "leastDelay(3, 0)", x -> x.leastDelay(3, 0));
        refused(32, ARGUMENT, "leastDelay(0, 6)", x -> x.leastDelay(0, 6));
        refused(33, INDEX, "distribute(3, 0)", x -> x.distribute(3, 0));
        refused(33, ARGUMENT, "distribute(0, 6)", x -> x.distribute(0, 6));
    }

    private static void fullBuffer() {
        edges.ground(2, CHANGES_NOTHING);
        refusing.add(2);
        String full = TEXT + " ".repeat(500 - TEXT.length());
        TrainTimetable x = Check.loaded("line plain 1 plain;");
        Check.put(x, full);
        String before = State.of(x);
        edges.wrongState("append at 500", () -> x.append(-1, -1, -1, -1, -1));
        edges.equal("the state after append at 500", before, State.of(x));
        edges.due("load of the text in the buffer", 3, x::load);
        edges.equal("its state", State.of(Check.loaded(TEXT)), State.of(x));
    }

    /** The calls that need a train to tell of, and no number of one. */
    private static void withoutTrains() {
        for (int promise : new int[] {17, 23}) {
            edges.ground(promise, CHANGES_NOTHING);
            refusing.add(promise);
            TrainTimetable y = Check.loaded("line plain 1 plain;");
            edges.noSuchElement("without trains", () -> promise == 17 ? y.lastArrival() : y.punctuality(0));
            edges.equal("the state", State.of(Check.loaded("line plain 1 plain;")), State.of(y));
        }
    }

    /** Its comment says otherwise: the buffer is empty then, and the error is set. */
    private static void failedLoad() {
        edges.ground(4, CHANGES_NOTHING);
        refusing.add(4);
        TrainTimetable x = example(3);
        String before = State.of(x);
        edges.noSuchArgument("load of a text without its end", x::load);
        edges.due("the code", 1, x::errorCode);
        edges.due("the position", BUFFER.length(), x::errorPosition);
        edges.noSuchIndex("the buffer is empty", () -> x.truncate(1));
        edges.equal("all else stays",
                before.replace("errorPosition=5", "errorPosition=" + BUFFER.length()), State.of(x));
    }

    private static void everyPromise() throws Exception {
        if (!Document.isThere()) {
            return;
        }
        edges.heading("");
        Set<Integer> throwing = new TreeSet<>();
        Document document = new Document();
        for (int promise = 1; promise <= 33; promise++) {
            if (document.saysUnder(promise, "Throws `")) {
                throwing.add(promise);
            }
        }
        edges.equal("promises of calls that throw", throwing, refusing);
    }

    // ---- several exceptions

    private static void first(int promise, String exception, String what, Function<TrainTimetable, Object> call) {
        edges.ground(promise, NAMED_FIRST);
        TrainTimetable x = example(3);
        edges.due(what, exception, () -> call.apply(x));
    }

    private static void severalExceptions() {
        first(9, INDEX, "no such train, no such report", x -> x.train(3, 6));
        first(9, INDEX, "no such train, no such report", x -> x.train(-1, -1));
        first(11, INDEX, "no such train, no arrival at station 0", x -> x.planned(3, 0, true));
        first(11, INDEX, "no such station, no event there", x -> x.planned(0, 4, false));
        first(12, INDEX, "the last station, the same train", x -> x.plan(3, 0, 0));
        first(12, INDEX, "no such train a, a plain station", x -> x.plan(1, 3, 0));
        first(12, INDEX, "no such train b, a plain station", x -> x.plan(1, 0, -1));
        first(12, INDEX, "no such station, not directly before", x -> x.plan(-1, 2, 1));
        first(13, INDEX, "no such train, no such minutes", x -> x.setSupplement(3, 1, 10));
        first(13, INDEX, "not over this segment, no such minutes", x -> x.setSupplement(1, 0, -1));
        first(15, INDEX, "no such train, nobody before", x -> x.buffer(3, 0));
        // train 1 is the first one in the order of all segments but the last one
        first(15, INDEX, "not over this segment, nobody before", x -> x.buffer(1, 0));
        first(20, INDEX, "no such train, no arrival at station 0", x -> x.actual(-1, 0, true));
        first(20, INDEX, "no such station, no event there", x -> x.actual(2, 4, true));
        first(26, INDEX, "no such train, no arrival at station 0", x -> x.cause(3, 0, true));
        first(26, INDEX, "no such station, no event there", x -> x.cause(0, -1, true));
        first(28, INDEX, "the last station, the same train", x -> x.overtake(3, 0, 0));
        first(28, INDEX, "no such train a, a plain station", x -> x.overtake(1, -1, 0));
        first(28, INDEX, "no such train b, a plain station", x -> x.overtake(1, 0, 3));
        first(28, INDEX, "no such station, not directly before", x -> x.overtake(4, 1, 2));
        first(31, INDEX, "no such train, no departure there", x -> x.tolerance(3, 3));
        first(31, INDEX, "no such station, no departure there", x -> x.tolerance(0, 4));
        first(32, INDEX, "no such train, no such minutes", x -> x.leastDelay(3, 6));
        first(32, INDEX, "no such train, no such minutes", x -> x.leastDelay(-1, -1));
        first(33, INDEX, "no such train, no such minutes", x -> x.distribute(3, 6));
        first(33, INDEX, "no such train, no such minutes", x -> x.distribute(-1, -1));
        edges.ground(23, NAMED_FIRST);
        edges.noSuchArgument("no such threshold, no train", () -> new TrainTimetable().punctuality(-1));
        edges.noSuchArgument("no such threshold, no train", () -> new TrainTimetable().punctuality(121));
    }

    /** Each of the sixteen ways in which its four conditions can hold or not. */
    private static void severalExceptionsOfDisturb() {
        edges.ground(18, NAMED_FIRST);
        for (int way = 0; way < 16; way++) {
            boolean isNoTrain = (way & 1) != 0;
            boolean isNoMinutes = (way & 2) != 0;
            boolean isNoEvent = (way & 4) != 0;
            boolean isFull = (way & 8) != 0;
            TrainTimetable x = example(isFull ? 20 : 19);
            int train = isNoTrain ? 3 : 0;
            int station = isNoTrain && isNoEvent ? 4 : 0;
            int minutes = isNoMinutes ? 0 : 120;
            Object due = isNoTrain ? INDEX : isNoMinutes ? ARGUMENT : isNoEvent ? ELEMENT : isFull ? STATE : (Object) 20;
            edges.due("way " + way, due, () -> x.disturb(train, station, isNoEvent, minutes));
            edges.due("the number after way " + way, isFull || due.equals(20) ? 20 : 19, () -> x.count(3));
        }
        first(18, INDEX, "no such station, no such minutes", x -> x.disturb(0, 4, false, 0));
        first(18, INDEX, "no such train, no such minutes", x -> x.disturb(3, 0, false, 121));
    }

    // ---- 512 calls

    /** Dear calls on the fullest line: 25 appends, a load, 20 disturbances and 466 of them. */
    private static void the512thCall() {
        edges.ground(1, "An object is used for at most 512 calls after it has been made");
        String text = "line siding 9 plain 9 siding 9 plain 9 siding 9 plain 9 siding 9 siding;headway 20;wait 60;"
                + "train 0 7 0 5 20;".repeat(8) + "connect 0 1 6 30;".repeat(8);
        TrainTimetable x = new TrainTimetable();
        Check.put(x, text + " ".repeat(500 - text.length()));
        edges.due("call 26", 8, x::load);
        for (int i = 0; i < 20; i++) {
            x.disturb(i % 8, i % 7, false, 120);
        }
        Object[] answers = new Object[6];
        for (int call = 47; call <= 512; call++) {
            int kind = call % 6;
            Object answer = Check.outcome(() -> dearCall(x, kind));
            if (answers[kind] == null) {
                answers[kind] = answer;
            }
            edges.equal("call " + call, answers[kind], answer);
        }
    }

    private static Object dearCall(TrainTimetable x, int kind) {
        switch (kind) {
            case 0: return x.leastDelay(7, 5);
            case 1: return x.leastDelay(0, 5);
            case 2: return x.bestOvertaking();
            case 3: return x.tolerance(3, 0);
            case 4: return x.disturb(0, 0, false, 1);
            default: return x.totalDelay();
        }
    }

    private static void the512thCallOfTheText() {
        edges.ground(4, "An object is used for at most 512 calls after it has been made");
        TrainTimetable x = new TrainTimetable();
        for (int round = 0; round < 128; round++) {
            edges.due("append", 20, () -> x.append(0x6c696e65, 0x20736964, 0x696e6720, 0x31207369, 0x64696e67));
            edges.noSuchArgument("load", x::load);
            edges.due("errorCode", 1, x::errorCode);
            edges.due("errorPosition", 20, x::errorPosition);
        }
    }
}
