import java.nio.charset.StandardCharsets;
import java.util.Objects;

/** Counts right and wrong answers, and feeds texts to timetables. */
class Check {
    interface Call {
        Object run();
    }

    private int right;
    private int wrong;
    private String heading = "";

    /** What is printed before each wrong answer from now on. */
    void heading(String text) {
        heading = text;
    }

    /** The answer of a call, or the simple name of the exception that it throws. */
    static Object outcome(Call call) {
        try {
            return call.run();
        } catch (RuntimeException e) {
            return e.getClass().getSimpleName();
        }
    }

    void equal(String what, Object want, Object got) {
        if (Objects.equals(want, got)) {
            right++;
        } else {
            wrong++;
            System.out.println(heading + what + " answered " + got + ", due is " + want);
        }
    }

    void due(String what, Object want, Call call) {
        equal(what, want, outcome(call));
    }

    void noSuchIndex(String what, Call call) {
        due(what, "IndexOutOfBoundsException", call);
    }

    void noSuchArgument(String what, Call call) {
        due(what, "IllegalArgumentException", call);
    }

    void noSuchElement(String what, Call call) {
        due(what, "NoSuchElementException", call);
    }

    void wrongState(String what, Call call) {
        due(what, "IllegalStateException", call);
    }

    /** Appends a text, whatever its length is. */
    static void put(TrainTimetable timetable, String text) {
        put(timetable, text.getBytes(StandardCharsets.ISO_8859_1));
    }

    static void put(TrainTimetable timetable, byte[] bytes) {
        int length = 0;
        for (int i = 0; i < bytes.length; i += 20) {
            length = timetable.append(four(bytes, i), four(bytes, i + 4), four(bytes, i + 8),
                    four(bytes, i + 12), four(bytes, i + 16));
        }
        int surplus = (20 - bytes.length % 20) % 20;
        if (surplus > 0) {
            timetable.truncate(length - surplus);
        }
    }

    private static int four(byte[] bytes, int from) {
        int number = 0;
        for (int i = from; i < from + 4; i++) {
            number = number << 8 | (i < bytes.length ? bytes[i] & 255 : 0);
        }
        return number;
    }

    static TrainTimetable loaded(String text) {
        TrainTimetable timetable = new TrainTimetable();
        put(timetable, text);
        timetable.load();
        return timetable;
    }

    /** Ends the program, with exit code 1 if an answer was wrong. */
    void end() {
        System.out.println(right + " answers as due, " + wrong + " not");
        if (wrong > 0 || right == 0) {
            System.exit(1);
        }
    }
}
