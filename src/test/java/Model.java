import java.util.ArrayList;
import java.util.Comparator;
import java.util.HashSet;
import java.util.List;
import java.util.NoSuchElementException;
import java.util.Set;
import java.util.regex.Matcher;
import java.util.regex.Pattern;

/**
 * A second, slower TrainTimetable, written from the document in another way: the text is split by a
 * regular expression, times come from a list of constraints that is applied until nothing changes, and
 * nothing is kept between calls but what was said.
 */
final class Model {
    /** The time of an event is at least that of another one (none for -1) plus some minutes. */
    private record Constraint(int number, int from, int to, int minutes) {}

    private record Token(String kind, String text, int position) {}

    private record Train(int first, int last, int start, int pace, int dwell) {
        boolean departs(int station) {
            return first <= station && station < last;
        }

        boolean arrives(int station) {
            return first < station && station <= last;
        }
    }

    private record Link(int from, int to, int station, int minutes) {}

    private record Disturbance(int event, int minutes) {}

    private static final class Data {
        final List<Boolean> sidings = new ArrayList<>();
        final List<Integer> lengths = new ArrayList<>();
        final List<Train> trains = new ArrayList<>();
        final List<Link> links = new ArrayList<>();
        int headway = 3;
        int wait = 5;
    }

    private static final class TextError extends Exception {
        private static final long serialVersionUID = 1L;
        final int code;
        final int position;

        TextError(int code, int position) {
            this.code = code;
            this.position = position;
        }
    }

    private final StringBuilder text = new StringBuilder();
    private Data data = new Data();
    private int errorCode = 0;
    private int errorPosition = -1;
    private List<List<Integer>> plannedOrders = new ArrayList<>();
    private List<List<Integer>> actualOrders = new ArrayList<>();
    private int[][] supplements = new int[8][8];
    private final List<Disturbance> disturbances = new ArrayList<>();

    Model() {
        data.sidings.add(true);
        data.sidings.add(true);
        data.lengths.add(1);
        begin();
    }

    // ---- the text

    public int append(int a, int b, int c, int d, int e) {
        if (text.length() + 20 > 500) {
            throw new IllegalStateException();
        }
        for (int number : new int[] {a, b, c, d, e}) {
            for (int i = 3; i >= 0; i--) {
                text.append((char) (number >>> 8 * i & 255));
            }
        }
        return text.length();
    }

    public int truncate(int length) {
        if (length < 0 || length > text.length()) {
            throw new IndexOutOfBoundsException();
        }
        text.setLength(length);
        return length;
    }

    public int load() {
        String all = text.toString();
        text.setLength(0);
        try {
            data = parse(all);
        } catch (TextError e) {
            errorCode = e.code;
            errorPosition = e.position;
            throw new IllegalArgumentException();
        }
        errorCode = 0;
        errorPosition = -1;
        begin();
        return data.trains.size();
    }

    private void begin() {
        List<Integer> order = new ArrayList<>();
        for (int t = 0; t < data.trains.size(); t++) {
            order.add(t);
        }
        order.sort(Comparator.comparing(t -> data.trains.get(t).start));
        plannedOrders = new ArrayList<>();
        for (int s = 0; s < data.lengths.size(); s++) {
            plannedOrders.add(new ArrayList<>(order));
        }
        actualOrders = copy(plannedOrders);
        supplements = new int[8][8];
        disturbances.clear();
    }

    private static List<List<Integer>> copy(List<List<Integer>> orders) {
        List<List<Integer>> copies = new ArrayList<>();
        for (List<Integer> order : orders) {
            copies.add(new ArrayList<>(order));
        }
        return copies;
    }

    private static final Pattern TOKEN = Pattern.compile(
            "(?<word>[a-z]+)|(?<number>[0-9]+)|(?<symbol>;)|(?<blank>[ \n]+)|(?<wrong>[\\x00-\\xff])");

    private static final List<String> WORDS =
            List.of("line", "plain", "siding", "headway", "wait", "train", "connect");

    private static String wordKind(String word) {
        return WORDS.contains(word) ? word : "wrong";
    }

    private static List<Token> split(String all) {
        List<Token> tokens = new ArrayList<>();
        Matcher matcher = TOKEN.matcher(all);
        while (matcher.find()) {
            String found = matcher.group();
            String kind = matcher.group("word") != null ? wordKind(found)
                    : matcher.group("symbol") != null ? ";"
                    : matcher.group("number") != null && found.length() <= 4 ? "number" : "wrong";
            if (matcher.group("blank") == null) {
                tokens.add(new Token(kind, found, matcher.start()));
            }
        }
        tokens.add(new Token("end", "", all.length()));
        return tokens;
    }

    private static Token next(List<Token> tokens, String... kinds) throws TextError {
        Token token = tokens.remove(0);
        if (!List.of(kinds).contains(token.kind)) {
            throw new TextError(1, token.position);
        }
        return token;
    }

    private static int number(List<Token> tokens, int low, int high) throws TextError {
        Token token = next(tokens, "number");
        int value = Integer.parseInt(token.text);
        if (value < low || value > high) {
            throw new TextError(2, token.position);
        }
        return value;
    }

    private static Data parse(String all) throws TextError {
        List<Token> tokens = split(all);
        Data data = new Data();
        next(tokens, "line");
        data.sidings.add(next(tokens, "plain", "siding").kind.equals("siding"));
        do {
            Token token = tokens.get(0);
            int length = number(tokens, 1, 60);
            if (data.lengths.size() == 7) {
                throw new TextError(5, token.position);
            }
            data.lengths.add(length);
            data.sidings.add(next(tokens, "plain", "siding").kind.equals("siding"));
        } while (tokens.get(0).kind.equals("number"));
        next(tokens, ";");
        int stage = 0;
        Set<String> settings = new HashSet<>();
        while (true) {
            Token token = next(tokens, "headway", "wait", "train", "connect", "end");
            int newStage = List.of("headway", "wait", "train", "connect", "end").indexOf(token.kind);
            newStage = newStage < 2 ? 0 : newStage - 1;
            if (newStage < stage) {
                throw new TextError(1, token.position);
            }
            stage = newStage;
            if (stage == 3) {
                return data;
            }
            if (stage == 0 && !settings.add(token.kind)) {
                throw new TextError(3, token.position);
            }
            if (stage == 1 && data.trains.size() == 8 || stage == 2 && data.links.size() == 8) {
                throw new TextError(5, token.position);
            }
            parseStatement(token.kind, tokens, data);
            next(tokens, ";");
        }
    }

    private static void parseStatement(String kind, List<Token> tokens, Data data) throws TextError {
        int stations = data.sidings.size();
        switch (kind) {
            case "headway" -> data.headway = number(tokens, 1, 20);
            case "wait" -> data.wait = number(tokens, 0, 60);
            case "train" -> {
                int first = number(tokens, 0, stations - 1);
                int last = number(tokens, first + 1, stations - 1);
                int start = number(tokens, 0, 1000);
                int pace = number(tokens, 1, 5);
                data.trains.add(new Train(first, last, start, pace, number(tokens, 0, 20)));
            }
            default -> {
                int a = number(tokens, 0, data.trains.size() - 1);
                int position = tokens.get(0).position;
                int b = number(tokens, 0, data.trains.size() - 1);
                if (a == b) {
                    throw new TextError(4, position);
                }
                position = tokens.get(0).position;
                int station = number(tokens, 0, stations - 1);
                boolean isPossible = data.sidings.get(station)
                        && data.trains.get(a).arrives(station) && data.trains.get(b).departs(station);
                if (!isPossible) {
                    throw new TextError(4, position);
                }
                data.links.add(new Link(a, b, station, number(tokens, 0, 30)));
            }
        }
    }

    public int errorCode() {
        return errorCode;
    }

    public int errorPosition() {
        return errorPosition;
    }

    // ---- constraints

    private static int event(int train, int station, boolean isArrival) {
        return 16 * train + 2 * station + (isArrival ? 1 : 0);
    }

    private boolean exists(int train, int station, boolean isArrival) {
        Train t = data.trains.get(train);
        return isArrival ? t.arrives(station) : t.departs(station);
    }

    private static int[] least(List<Constraint> constraints) {
        int[] times = new int[128];
        boolean isChanged = true;
        while (isChanged) {
            isChanged = false;
            for (Constraint c : constraints) {
                int bound = (c.from < 0 ? 0 : times[c.from]) + c.minutes;
                if (times[c.to] < bound) {
                    times[c.to] = bound;
                    isChanged = true;
                }
            }
        }
        return times;
    }

    /** (4) and (5). */
    private void addOrders(List<Constraint> constraints, List<List<Integer>> orders) {
        for (int s = 0; s < orders.size(); s++) {
            int segment = s;
            List<Integer> running = new ArrayList<>(orders.get(s));
            running.removeIf(t -> !data.trains.get(t).departs(segment));
            for (int i = 1; i < running.size(); i++) {
                int a = running.get(i - 1);
                int b = running.get(i);
                int h = data.headway;
                constraints.add(new Constraint(4, event(a, s, false), event(b, s, false), h));
                constraints.add(new Constraint(4, event(a, s + 1, true), event(b, s + 1, true), h));
                if (!data.sidings.get(s + 1) && data.trains.get(a).departs(s + 1)) {
                    constraints.add(new Constraint(5, event(a, s + 1, false), event(b, s + 1, true), h));
                }
            }
        }
    }

    /** (2) and (3), with minutes that are added to each event. */
    private void addRuns(List<Constraint> constraints, int[] added) {
        for (int t = 0; t < data.trains.size(); t++) {
            Train train = data.trains.get(t);
            for (int s = train.first; s < train.last; s++) {
                int arrival = event(t, s + 1, true);
                int run = data.lengths.get(s) * train.pace + added[arrival];
                constraints.add(new Constraint(2, event(t, s, false), arrival, run));
                if (s > train.first) {
                    int departure = event(t, s, false);
                    int dwell = train.dwell + added[departure];
                    constraints.add(new Constraint(3, event(t, s, true), departure, dwell));
                }
            }
        }
    }

    private Constraint connection(Link link) {
        return new Constraint(6, event(link.from, link.station, true), event(link.to, link.station, false),
                link.minutes);
    }

    private int[] plannedTimes() {
        List<Constraint> constraints = new ArrayList<>();
        int[] added = new int[128];
        for (int t = 0; t < data.trains.size(); t++) {
            Train train = data.trains.get(t);
            constraints.add(new Constraint(1, -1, event(t, train.first, false), train.start));
            for (int s = train.first; s < train.last; s++) {
                added[event(t, s + 1, true)] = supplements[t][s];
            }
        }
        addRuns(constraints, added);
        addOrders(constraints, plannedOrders);
        for (Link link : data.links) {
            constraints.add(connection(link));
        }
        return least(constraints);
    }

    /** What holds for the actual times if just these connections are kept; 0 is the planned time. */
    private List<Constraint> actualConstraints(int[] planned, List<List<Integer>> orders,
            List<Disturbance> disturbing, Set<Integer> kept) {
        int[] extras = new int[128];
        for (Disturbance disturbance : disturbing) {
            extras[disturbance.event] += disturbance.minutes;
        }
        List<Constraint> constraints = new ArrayList<>();
        for (int t = 0; t < data.trains.size(); t++) {
            for (int s = 0; s < data.sidings.size(); s++) {
                for (boolean isArrival : new boolean[] {false, true}) {
                    int event = event(t, s, isArrival);
                    if (exists(t, s, isArrival)) {
                        constraints.add(new Constraint(0, -1, event, planned[event]));
                    }
                }
            }
            int start = event(t, data.trains.get(t).first, false);
            constraints.add(new Constraint(1, -1, start, planned[start] + extras[start]));
        }
        addRuns(constraints, extras);
        addOrders(constraints, orders);
        for (int i : kept) {
            constraints.add(connection(data.links.get(i)));
        }
        return constraints;
    }

    private Set<Integer> keptBy(int[] planned, int[] times) {
        Set<Integer> kept = new HashSet<>();
        for (int i = 0; i < data.links.size(); i++) {
            Link link = data.links.get(i);
            int arrival = times[event(link.from, link.station, true)];
            if (arrival + link.minutes <= planned[event(link.to, link.station, false)] + data.wait) {
                kept.add(i);
            }
        }
        return kept;
    }

    private record Actual(int[] planned, int[] times, Set<Integer> kept, List<Constraint> constraints) {}

    /** Guesses the kept connections until the guess agrees with the times that follow from it. */
    private Actual actual(List<List<Integer>> orders, List<Disturbance> disturbing) {
        int[] planned = plannedTimes();
        Set<Integer> kept = new HashSet<>();
        for (int tries = 0; tries < 100; tries++) {
            List<Constraint> constraints = actualConstraints(planned, orders, disturbing, kept);
            int[] times = least(constraints);
            Set<Integer> found = keptBy(planned, times);
            if (found.equals(kept)) {
                return new Actual(planned, times, kept, constraints);
            }
            kept = found;
        }
        throw new AssertionError("no guess of the kept connections agrees");
    }

    private Actual actual() {
        return actual(actualOrders, disturbances);
    }

    private int total(Actual actual) {
        int sum = 0;
        for (int t = 0; t < data.trains.size(); t++) {
            Train train = data.trains.get(t);
            for (int s = train.first + 1; s <= train.last; s++) {
                sum += actual.times[event(t, s, true)] - actual.planned[event(t, s, true)];
            }
        }
        return sum;
    }

    private int lastDelay(Actual actual, int train) {
        int event = event(train, data.trains.get(train).last, true);
        return actual.times[event] - actual.planned[event];
    }

    // ---- reports

    private void needTrain(int train) {
        if (train < 0 || train >= data.trains.size()) {
            throw new IndexOutOfBoundsException();
        }
    }

    private void needStation(int station) {
        if (station < 0 || station >= data.sidings.size()) {
            throw new IndexOutOfBoundsException();
        }
    }

    private void needEvent(int train, int station, boolean isArrival) {
        needTrain(train);
        needStation(station);
        if (!exists(train, station, isArrival)) {
            throw new NoSuchElementException();
        }
    }

    private void needSegment(int train, int segment) {
        needTrain(train);
        if (!data.trains.get(train).departs(segment)) {
            throw new IndexOutOfBoundsException();
        }
    }

    public int count(int what) {
        int[] counts = {data.sidings.size(), data.trains.size(), data.links.size(), disturbances.size(),
            data.headway, data.wait};
        if (what < 0 || what >= counts.length) {
            throw new IllegalArgumentException();
        }
        return counts[what];
    }

    public boolean isSiding(int station) {
        needStation(station);
        return data.sidings.get(station);
    }

    public int train(int train, int what) {
        needTrain(train);
        Train t = data.trains.get(train);
        int sum = 0;
        for (int minutes : supplements[train]) {
            sum += minutes;
        }
        int[] values = {t.first, t.last, t.start, t.pace, t.dwell, sum};
        if (what < 0 || what >= values.length) {
            throw new IllegalArgumentException();
        }
        return values[what];
    }

    public int order(boolean isActual, int segment, int index) {
        if (segment < 0 || segment >= data.lengths.size() || index < 0 || index >= data.trains.size()) {
            throw new IndexOutOfBoundsException();
        }
        return (isActual ? actualOrders : plannedOrders).get(segment).get(index);
    }

    // ---- the plan

    public int planned(int train, int station, boolean isArrival) {
        needEvent(train, station, isArrival);
        return plannedTimes()[event(train, station, isArrival)];
    }

    private boolean canPass(List<List<Integer>> orders, int station, int a, int b) {
        boolean can = data.sidings.get(station);
        for (int s = station; s < orders.size(); s++) {
            can &= orders.get(s).indexOf(a) + 1 == orders.get(s).indexOf(b);
        }
        return can;
    }

    private void pass(List<List<Integer>> orders, int station, int a, int b) {
        needStation(station);
        needStation(station + 1);
        needTrain(a);
        needTrain(b);
        if (!canPass(orders, station, a, b)) {
            throw new IllegalStateException();
        }
        for (int s = station; s < orders.size(); s++) {
            List<Integer> order = orders.get(s);
            order.remove(Integer.valueOf(b));
            order.add(order.indexOf(a), b);
        }
    }

    public int plan(int station, int a, int b) {
        pass(plannedOrders, station, a, b);
        actualOrders = copy(plannedOrders);
        return plannedTimes()[event(b, data.trains.get(b).last, true)];
    }

    public int setSupplement(int train, int segment, int minutes) {
        needSegment(train, segment);
        if (minutes < 0 || minutes > 9) {
            throw new IllegalArgumentException();
        }
        int previous = supplements[train][segment];
        supplements[train][segment] = minutes;
        return previous;
    }

    public int supplement(int train, int segment) {
        needSegment(train, segment);
        return supplements[train][segment];
    }

    public int buffer(int train, int segment) {
        needSegment(train, segment);
        int before = -1;
        for (int t : plannedOrders.get(segment)) {
            if (t == train) {
                break;
            }
            if (data.trains.get(t).departs(segment)) {
                before = t;
            }
        }
        if (before < 0) {
            throw new NoSuchElementException();
        }
        int[] times = plannedTimes();
        return times[event(train, segment, false)] - times[event(before, segment, false)] - data.headway;
    }

    public double speed(int train) {
        needTrain(train);
        Train t = data.trains.get(train);
        double sum = 0;
        for (int s = t.first; s < t.last; s++) {
            sum += data.lengths.get(s);
        }
        int[] times = plannedTimes();
        return sum / (times[event(train, t.last, true)] - times[event(train, t.first, false)]);
    }

    public int lastArrival() {
        if (data.trains.isEmpty()) {
            throw new NoSuchElementException();
        }
        int latest = 0;
        for (int time : plannedTimes()) {
            latest = Math.max(latest, time);
        }
        return latest;
    }

    // ---- delays

    public int disturb(int train, int station, boolean isArrival, int minutes) {
        needTrain(train);
        needStation(station);
        if (minutes < 1 || minutes > 120) {
            throw new IllegalArgumentException();
        }
        needEvent(train, station, isArrival);
        if (disturbances.size() == 20) {
            throw new IllegalStateException();
        }
        disturbances.add(new Disturbance(event(train, station, isArrival), minutes));
        return disturbances.size();
    }

    public int clear() {
        int number = disturbances.size();
        disturbances.clear();
        actualOrders = copy(plannedOrders);
        return number;
    }

    public int actual(int train, int station, boolean isArrival) {
        needEvent(train, station, isArrival);
        return actual().times[event(train, station, isArrival)];
    }

    public int totalDelay() {
        return total(actual());
    }

    public int lateTrains() {
        Actual actual = actual();
        int set = 0;
        for (int t = 0; t < data.trains.size(); t++) {
            set += lastDelay(actual, t) > 0 ? 1 << t : 0;
        }
        return set;
    }

    public double punctuality(int threshold) {
        if (threshold < 0 || threshold > 120) {
            throw new IllegalArgumentException();
        }
        if (data.trains.isEmpty()) {
            throw new NoSuchElementException();
        }
        Actual actual = actual();
        double number = 0;
        for (int t = 0; t < data.trains.size(); t++) {
            number += lastDelay(actual, t) <= threshold ? 1 : 0;
        }
        return number / data.trains.size();
    }

    public boolean isKept(int connection) {
        if (connection < 0 || connection >= data.links.size()) {
            throw new IndexOutOfBoundsException();
        }
        return actual().kept.contains(connection);
    }

    public int missed() {
        return data.links.size() - actual().kept.size();
    }

    public int cause(int train, int station, boolean isArrival) {
        needEvent(train, station, isArrival);
        Actual actual = actual();
        int event = event(train, station, isArrival);
        int lowest = 9;
        for (Constraint c : actual.constraints) {
            int bound = (c.from < 0 ? 0 : actual.times[c.from]) + c.minutes;
            if (c.to == event && actual.times[event] - 1 < bound) {
                lowest = Math.min(lowest, List.of(0, 1, 1, 1, 2, 3, 4).get(c.number));
            }
        }
        return lowest;
    }

    public int recovery() {
        Actual actual = actual();
        int latest = -1;
        for (int t = 0; t < data.trains.size(); t++) {
            for (int e = 16 * t; e < 16 * t + 16; e++) {
                if (exists(t, e % 16 / 2, e % 2 == 1) && actual.times[e] > actual.planned[e]) {
                    latest = Math.max(latest, actual.times[e]);
                }
            }
        }
        return latest + 1;
    }

    // ---- decisions

    public int overtake(int station, int a, int b) {
        pass(actualOrders, station, a, b);
        return total(actual());
    }

    public int bestOvertaking() {
        int best = -1;
        int least = total(actual());
        for (int code = 0; code < 800; code++) {
            int station = code / 100;
            int a = code / 10 % 10;
            int b = code % 10;
            boolean isThere = station < data.lengths.size() && Math.max(a, b) < data.trains.size();
            if (isThere && a != b && canPass(actualOrders, station, a, b)) {
                List<List<Integer>> orders = copy(actualOrders);
                pass(orders, station, a, b);
                int delay = total(actual(orders, disturbances));
                if (delay < least) {
                    least = delay;
                    best = code;
                }
            }
        }
        return best;
    }

    public int dispatch() {
        int number = 0;
        while (number < 20) {
            int best = bestOvertaking();
            if (best < 0) {
                break;
            }
            pass(actualOrders, best / 100, best / 10 % 10, best % 10);
            number++;
        }
        return number;
    }

    public int tolerance(int train, int station) {
        needEvent(train, station, false);
        int greatest = 0;
        for (int minutes = 1; minutes <= 60; minutes++) {
            Disturbance disturbance = new Disturbance(event(train, station, false), minutes);
            Actual actual = actual(plannedOrders, List.of(disturbance));
            boolean isLate = false;
            for (int t = 0; t < data.trains.size(); t++) {
                isLate |= lastDelay(actual, t) > 0;
            }
            if (!isLate) {
                greatest = minutes;
            }
        }
        return greatest;
    }

    /** All rows of numbers with a sum, in no order that the document asks for. */
    private static List<int[]> rows(int segments, int sum) {
        List<int[]> rows = new ArrayList<>();
        if (segments == 1) {
            rows.add(new int[] {sum});
            return rows;
        }
        for (int first = 0; first <= sum; first++) {
            for (int[] rest : rows(segments - 1, sum - first)) {
                int[] row = new int[segments];
                row[0] = first;
                System.arraycopy(rest, 0, row, 1, segments - 1);
                rows.add(row);
            }
        }
        return rows;
    }

    private int[] bestRow(int train, int minutes) {
        needTrain(train);
        if (minutes < 0 || minutes > 5) {
            throw new IllegalArgumentException();
        }
        Train t = data.trains.get(train);
        int[] saved = supplements[train];
        int[] best = null;
        int least = 0;
        for (int[] row : rows(t.last - t.first, minutes)) {
            supplements[train] = new int[8];
            System.arraycopy(row, 0, supplements[train], t.first, row.length);
            int delay = total(actual());
            if (best == null || delay < least || delay == least && isMoreAtFront(supplements[train], best)) {
                best = supplements[train];
                least = delay;
            }
        }
        supplements[train] = saved;
        return best;
    }

    private static boolean isMoreAtFront(int[] row, int[] other) {
        for (int i = 0; i < row.length; i++) {
            if (row[i] != other[i]) {
                return row[i] > other[i];
            }
        }
        return false;
    }

    public int leastDelay(int train, int minutes) {
        int[] best = bestRow(train, minutes);
        int[] saved = supplements[train];
        supplements[train] = best;
        int delay = total(actual());
        supplements[train] = saved;
        return delay;
    }

    public int distribute(int train, int minutes) {
        int[] best = bestRow(train, minutes);
        supplements[train] = best;
        return total(actual());
    }
}
