import java.lang.reflect.InvocationTargetException;
import java.lang.reflect.Method;
import java.util.ArrayList;
import java.util.Arrays;
import java.util.HashMap;
import java.util.List;
import java.util.Map;
import java.util.Random;
import java.util.TreeMap;

/**
 * All promises: random runs of calls on a timetable and on the Model, which must answer alike. The
 * numbers come from a fixed seed, so that every run is the same; a seed and a number of runs can be
 * given as arguments.
 */
public final class RandomTest {
    private static final Map<String, Method> MODEL = new HashMap<>();
    private static final List<Method> CALLS = new ArrayList<>();
    private static final Map<String, Integer> OUTCOMES = new TreeMap<>();
    private static final Check check = new Check();

    private final Random random;
    private final TrainTimetable timetable = new TrainTimetable();
    private final Model model = new Model();
    private final StringBuilder story = new StringBuilder();
    private boolean isAlike = true;

    private RandomTest(long seed) {
        random = new Random(seed);
    }

    public static void main(String[] args) {
        long seed = args.length > 0 ? Long.parseLong(args[0]) : 1;
        int runs = args.length > 1 ? Integer.parseInt(args[1]) : 600;
        for (Method method : Model.class.getDeclaredMethods()) {
            if (java.lang.reflect.Modifier.isPublic(method.getModifiers())) {
                MODEL.put(method.getName(), method);
            }
        }
        for (Method method : TrainTimetable.class.getDeclaredMethods()) {
            if (MODEL.containsKey(method.getName()) && java.lang.reflect.Modifier.isPublic(method.getModifiers())) {
                CALLS.add(method);
            }
        }
        CALLS.sort((a, b) -> a.getName().compareTo(b.getName()));
        check.equal("calls in common", 32, CALLS.size());
        for (int i = 0; i < runs; i++) {
            new RandomTest(seed * 1000003 + i).run();
        }
        if (args.length > 0) {
            OUTCOMES.forEach((what, number) -> System.out.println(number + " " + what));
        }
        check.end();
    }

    private int below(int bound) {
        return random.nextInt(bound);
    }

    private int from(int low, int high) {
        return low + below(high - low + 1);
    }

    private void run() {
        int loads = from(1, 3);
        for (int i = 0; i < loads && isAlike; i++) {
            load(below(4) == 0 ? spoiled(randomText()) : randomText());
            if (below(3) == 0) {
                load(spoiled(randomText()));
            }
            int calls = from(5, 70);
            for (int j = 0; j < calls && isAlike; j++) {
                randomCall();
            }
            compareAll();
        }
    }

    private void load(String text) {
        byte[] bytes = new byte[text.length()];
        for (int i = 0; i < bytes.length; i++) {
            bytes[i] = (byte) text.charAt(i);
        }
        bytes = Arrays.copyOf(bytes, Math.min(bytes.length, 500));
        timetable.truncate(0);
        model.truncate(0);
        Check.put(timetable, bytes);
        int padded = (bytes.length + 19) / 20 * 5;
        int[] numbers = new int[padded];
        for (int i = 0; i < bytes.length; i++) {
            numbers[i / 4] |= (bytes[i] & 255) << 24 - 8 * (i % 4);
        }
        for (int i = 0; i < padded; i += 5) {
            model.append(numbers[i], numbers[i + 1], numbers[i + 2], numbers[i + 3], numbers[i + 4]);
        }
        model.truncate(bytes.length);
        story.append("text ").append(text).append('\n');
        call("load");
        call("errorCode");
        call("errorPosition");
        for (int what = 0; what < 6; what++) {
            call("count", what);
        }
    }

    private String randomText() {
        StringBuilder text = new StringBuilder("line ");
        int stations = below(3) == 0 ? from(2, 8) : from(3, 5);
        boolean[] sidings = new boolean[stations];
        int longest = below(3) == 0 ? 60 : 12;
        for (int s = 0; s < stations; s++) {
            sidings[s] = below(3) > 0;
            text.append(s > 0 ? " " + from(1, longest) + " " : "").append(sidings[s] ? "siding" : "plain");
        }
        text.append(";");
        if (below(2) == 0) {
            text.append("headway ").append(from(1, 20)).append(";");
        }
        if (below(2) == 0) {
            text.append("wait ").append(below(2) == 0 ? from(0, 60) : from(0, 9)).append(";");
        }
        int trains = below(4) == 0 ? from(0, 8) : from(2, 5);
        int[] firsts = new int[trains];
        int[] lasts = new int[trains];
        int latest = below(3) == 0 ? 200 : 20;
        for (int t = 0; t < trains; t++) {
            firsts[t] = below(2) == 0 ? 0 : from(0, stations - 2);
            lasts[t] = below(2) == 0 ? stations - 1 : from(firsts[t] + 1, stations - 1);
            text.append("train ").append(firsts[t]).append(" ").append(lasts[t]).append(" ");
            text.append(from(0, latest)).append(" ").append(from(1, 5)).append(" ");
            text.append(below(2) == 0 ? 0 : from(0, 20)).append(";");
        }
        addConnections(text, sidings, firsts, lasts);
        return text.toString();
    }

    private void addConnections(StringBuilder text, boolean[] sidings, int[] firsts, int[] lasts) {
        for (int tries = below(30); tries > 0 && firsts.length > 0; tries--) {
            int a = below(firsts.length);
            int b = below(firsts.length);
            int s = below(sidings.length);
            boolean isRight = a != b && sidings[s] && firsts[a] < s && s <= lasts[a] && firsts[b] <= s && s < lasts[b];
            if (isRight) {
                text.append("connect ").append(a).append(" ").append(b).append(" ").append(s).append(" ");
                text.append(below(2) == 0 ? from(0, 30) : from(0, 4)).append(";");
            }
        }
    }

    /** A text with one to three changes, most of which make it wrong. */
    private String spoiled(String text) {
        StringBuilder spoiled = new StringBuilder(text);
        String[] pieces = {";", " ", "\n", "0", "1", "7", "61", "1001", "12345", "train", "train 0 1 0 1 0;",
            "connect 0 1 1 3;", "connect", "headway 3;", "wait 5;", "wait", "plain", "siding", "line", " 3 plain",
            " 60 siding 2 plain", "x", "\0", "\u00ff", "A", "end", "number"};
        for (int changes = from(1, 3); changes > 0; changes--) {
            int at = below(spoiled.length() + 1);
            int semicolon = spoiled.indexOf(";", at);
            if (below(2) == 0 && semicolon >= 0) {
                at = semicolon + below(2);
            }
            switch (below(4)) {
                case 0 -> spoiled.setLength(at);
                case 1 -> spoiled.delete(at, Math.min(spoiled.length(), at + from(1, 8)));
                case 2 -> spoiled.insert(at, pieces[below(pieces.length)].repeat(below(9) == 0 ? 8 : 1));
                default -> {
                    if (at < spoiled.length()) {
                        spoiled.setCharAt(at, (char) ('0' + below(10)));
                    }
                }
            }
        }
        return spoiled.toString();
    }

    private void randomCall() {
        Method method = CALLS.get(below(CALLS.size()));
        String name = method.getName();
        boolean isDear = name.equals("leastDelay") || name.equals("distribute") || name.equals("tolerance");
        boolean isText = name.equals("load") || name.equals("append") || name.equals("truncate");
        boolean isRare = isDear && below(4) > 0 || isText && below(10) > 0;
        if (isRare || name.equals("clear") && below(8) > 0) {
            return;
        }
        if (below(6) == 0) {
            overtakeNeighbour();
        }
        if (below(4) == 0) {
            call("disturb", train(), station(), random.nextBoolean(), from(1, 25));
        }
        call(name, arguments(method));
    }

    /** Two trains that are one behind the other on the last segment; most random pairs are not. */
    private void overtakeNeighbour() {
        boolean isActual = below(3) > 0;
        int segments = timetable.count(0) - 1;
        int trains = timetable.count(1);
        if (trains >= 2) {
            int index = below(trains - 1);
            int a = timetable.order(isActual, segments - 1, index);
            int b = timetable.order(isActual, segments - 1, index + 1);
            call(isActual ? "overtake" : "plan", below(segments), a, b);
        }
    }

    /** Every time, order and cause. */
    private void compareAll() {
        for (int s = 0; s < timetable.count(0) && isAlike; s++) {
            for (int t = 0; t < timetable.count(1); t++) {
                for (boolean flag : new boolean[] {false, true}) {
                    call("planned", t, s, flag);
                    call("actual", t, s, flag);
                    call("cause", t, s, flag);
                    call("order", flag, s, t);
                }
                call("supplement", t, s);
                call("buffer", t, s);
            }
        }
        for (int connection = 0; connection < timetable.count(2); connection++) {
            call("isKept", connection);
        }
    }

    private int train() {
        int trains = timetable.count(1);
        return below(40) == 0 ? odd() : below(30) == 0 ? trains : below(Math.max(trains, 1));
    }

    private int station() {
        int stations = timetable.count(0);
        return below(40) == 0 ? odd() : below(30) == 0 ? stations : below(stations);
    }

    private int odd() {
        int[] numbers = {-1, 8, 9, 16, 64, Integer.MAX_VALUE, Integer.MIN_VALUE, 32, -8, 1 << 30};
        return numbers[below(numbers.length)];
    }

    private Object[] arguments(Method method) {
        String name = method.getName();
        Object[] arguments = new Object[method.getParameterCount()];
        for (int i = 0; i < arguments.length; i++) {
            arguments[i] = method.getParameterTypes()[i] == boolean.class
                    ? (Object) random.nextBoolean() : (Object) number(name, i);
        }
        return arguments;
    }

    private int number(String name, int index) {
        if (below(60) == 0) {
            return odd();
        }
        switch (name) {
            case "count": return from(-1, 6);
            case "isSiding": return station();
            case "isKept": return from(-1, timetable.count(2));
            case "order": return index == 1 ? station() : train();
            case "punctuality": return below(5) == 0 ? from(-1, 121) : from(0, 20);
            case "plan":
            case "overtake": return index == 0 ? station() : train();
            default: break;
        }
        if (index == 0) {
            return train();
        }
        if (index == 1 && !List.of("train", "leastDelay", "distribute").contains(name)) {
            return station();
        }
        switch (name) {
            case "train":
            case "leastDelay":
            case "distribute": return from(-1, 6);
            case "setSupplement": return from(-1, 10);
            case "disturb": return below(6) == 0 ? from(-1, 121) : from(1, 40);
            default: return from(-5, 600);
        }
    }

    private void call(String name, Object... arguments) {
        Object got = Check.outcome(() -> invoke(find(name), timetable, arguments));
        Object want = Check.outcome(() -> invoke(MODEL.get(name), model, arguments));
        story.append(name).append(Arrays.toString(arguments)).append(" -> ").append(got).append('\n');
        isAlike &= got.equals(want);
        String kind = got instanceof String ? (String) got : "answer";
        OUTCOMES.merge(name + " " + kind, 1, Integer::sum);
        check.equal(isAlike ? name : story + name, want, got);
    }

    private static Method find(String name) {
        for (Method method : CALLS) {
            if (method.getName().equals(name)) {
                return method;
            }
        }
        throw new AssertionError(name);
    }

    private static Object invoke(Method method, Object object, Object[] arguments) {
        try {
            return method.invoke(object, arguments);
        } catch (InvocationTargetException e) {
            if (e.getCause() instanceof RuntimeException) {
                throw (RuntimeException) e.getCause();
            }
            throw new AssertionError(e);
        } catch (IllegalAccessException e) {
            throw new AssertionError(e);
        }
    }
}
