import java.nio.charset.StandardCharsets;

/** The boundary cases of promises 1 to 6, a test for each sentence. */
public final class TextEdgesTest {
    private static final int NONE = TrainTimetable.NONE;
    private static final int BLANKS = 0x20202020;
    private static final String TWO = "line siding 1 siding;";
    private static final String THREE = "line siding 10 siding 20 siding;";
    private static final String EIGHT =
            "line siding 1 siding 2 siding 3 siding 4 siding 5 siding 6 siding 7 siding";
    private static final String TRAINS = "line siding 1 siding 1 siding;" + "train 0 2 0 1 0;".repeat(8);
    private static final String CONNECTIONS = TRAINS + "connect 0 1 1 0;".repeat(8);

    private static final Edges edges = new Edges(1, 6);

    public static void main(String[] args) {
        newTimetable();
        newBuffer();
        appendedBytes();
        bytesOfEachArgument();
        appendedLength();
        appendTooMuch();
        truncated();
        truncatedLength();
        truncateWrongly();
        loadAnew();
        bufferAfterLoad();
        loadedTrains();
        loadOfAnError();
        stayingAfterAnError();
        errorCode();
        errorPosition();
        numberOfStations();
        lengthsOfSegments();
        numberOfTrains();
        numberOfConnections();
        lengthOfText();
        longestTokens();
        words();
        numbers();
        blanks();
        grammarOfText();
        grammarOfKind();
        grammarOfSetting();
        grammarOfTrain();
        grammarOfConnection();
        headwayAndWait();
        numbersOfTrain();
        numbersOfConnection();
        positionOfErrors();
        firstError();
        code1();
        code2();
        code3();
        code4();
        code5();
        edges.end();
    }

    // ---- promise 1

    private static void newTimetable() {
        edges.promise(1, "Creates a timetable for the text \"line siding 1 siding;\"");
        TrainTimetable x = new TrainTimetable();
        edges.equal("the state", State.of(Check.loaded(TWO)), State.of(x));
        edges.due("stations", 2, () -> x.count(0));
        edges.due("trains", 0, () -> x.count(1));
        edges.due("connections", 0, () -> x.count(2));
        edges.due("disturbances", 0, () -> x.count(3));
        edges.due("headway", 3, () -> x.count(4));
        edges.due("waiting time", 5, () -> x.count(5));
        edges.due("totalDelay", 0, x::totalDelay);
        edges.due("clear", 0, x::clear);
        edges.due("dispatch", 0, x::dispatch);
        edges.due("bestOvertaking", NONE, x::bestOvertaking);
        edges.noSuchIndex("train", () -> x.train(0, 0));
        edges.noSuchIndex("planned", () -> x.planned(0, 0, false));
        edges.noSuchIndex("plan", () -> x.plan(0, 0, 1));
        edges.noSuchIndex("setSupplement", () -> x.setSupplement(0, 0, 0));
        edges.noSuchIndex("disturb", () -> x.disturb(0, 0, false, 1));
        edges.noSuchIndex("overtake", () -> x.overtake(0, 0, 1));
        edges.noSuchIndex("tolerance", () -> x.tolerance(0, 0));
        edges.noSuchIndex("leastDelay", () -> x.leastDelay(0, 0));
        edges.noSuchIndex("distribute", () -> x.distribute(0, 0));
        edges.noSuchIndex("isKept", () -> x.isKept(0));
    }

    private static void newBuffer() {
        edges.promise(1, "with an empty text buffer.");
        TrainTimetable x = new TrainTimetable();
        edges.noSuchIndex("truncate(1)", () -> x.truncate(1));
        edges.due("truncate(0)", 0, () -> x.truncate(0));
        edges.noSuchArgument("load of the empty buffer", x::load);
        edges.due("the code of the empty text", 1, x::errorCode);
        edges.due("the position of the end of the empty text", 0, x::errorPosition);
        edges.due("the first append", 20, () -> x.append(0, 0, 0, 0, 0));
    }

    // ---- promise 2

    /** A timetable that was given blanks but for one byte, by whose error its place is seen. */
    private static TrainTimetable oneByte(int place, int value) {
        int[] numbers = {BLANKS, BLANKS, BLANKS, BLANKS, BLANKS};
        int shift = 24 - place % 4 * 8;
        numbers[place / 4] = BLANKS & ~(255 << shift) | value << shift;
        TrainTimetable x = new TrainTimetable();
        x.append(numbers[0], numbers[1], numbers[2], numbers[3], numbers[4]);
        Check.outcome(x::load);
        return x;
    }

    private static void appendedBytes() {
        edges.promise(2, "Appends 20 bytes to the text buffer: the four bytes of each argument in order, the most"
                + " significant byte first.");
        TrainTimetable x = new TrainTimetable();
        x.append(0x6c696e65, 0x20736964, 0x696e6720, 0x31207369, 0x64696e67);
        x.append(0x3b202020, BLANKS, BLANKS, BLANKS, BLANKS);
        edges.due("load", 0, x::load);
        for (int value : new int[] {0, 1, 127, 128, 255}) {
            edges.due("the first byte is " + value, 0, oneByte(0, value)::errorPosition);
            edges.due("the last byte is " + value, 19, oneByte(19, value)::errorPosition);
        }
        for (int number : new int[] {0, -1, Integer.MIN_VALUE, Integer.MAX_VALUE}) {
            TrainTimetable y = new TrainTimetable();
            y.append(BLANKS, BLANKS, BLANKS, BLANKS, BLANKS);
            y.append(number, number, number, number, number);
            edges.noSuchArgument("load of " + number, y::load);
            edges.due("the code of " + number, 1, y::errorCode);
            edges.due("the position of " + number, 20, y::errorPosition);
        }
    }

    private static void bytesOfEachArgument() {
        String[] sentences = {"- `a`: bytes 0 to 3", "- `b`: bytes 4 to 7", "- `c`: bytes 8 to 11",
            "- `d`: bytes 12 to 15", "- `e`: bytes 16 to 19"};
        for (int argument = 0; argument < 5; argument++) {
            edges.promise(2, sentences[argument]);
            for (int place = 4 * argument; place < 4 * argument + 4; place++) {
                edges.due("the place of byte " + place, place, oneByte(place, '?')::errorPosition);
            }
        }
    }

    private static void appendedLength() {
        edges.promise(2, "Returns the new length of the buffer.");
        TrainTimetable x = new TrainTimetable();
        for (int i = 1; i <= 25; i++) {
            edges.due("append " + i, 20 * i, () -> x.append(0, 0, 0, 0, 0));
        }
        x.truncate(1);
        edges.due("append behind one byte", 21, () -> x.append(0, 0, 0, 0, 0));
        Check.outcome(x::load);
        edges.due("append behind a load", 20, () -> x.append(0, 0, 0, 0, 0));
    }

    private static void appendTooMuch() {
        edges.promise(2, "Throws `IllegalStateException` if the length would exceed 500");
        TrainTimetable x = new TrainTimetable();
        for (int i = 0; i < 24; i++) {
            x.append(BLANKS, BLANKS, BLANKS, BLANKS, BLANKS);
        }
        edges.due("append at 480", 500, () -> x.append(BLANKS, BLANKS, BLANKS, BLANKS, BLANKS));
        edges.wrongState("append at 500", () -> x.append(0, 0, 0, 0, 0));
        for (int length = 499; length >= 481; length--) {
            x.truncate(length);
            edges.wrongState("append at " + length, () -> x.append(0, 0, 0, 0, 0));
        }
        edges.due("the length stays", 481, () -> x.truncate(481));
        edges.noSuchIndex("the length stays", () -> x.truncate(482));
        x.truncate(480);
        edges.due("append at 480 again", 500, () -> x.append(BLANKS, BLANKS, BLANKS, BLANKS, BLANKS));
        edges.noSuchArgument("load of 500 blanks", x::load);
        edges.due("nothing of the refused bytes is there", 500, x::errorPosition);
    }

    // ---- promise 3

    private static void truncated() {
        edges.promise(3, "Truncates the text buffer.");
        TrainTimetable x = new TrainTimetable();
        Check.put(x, TWO + "?");
        x.truncate(TWO.length());
        edges.due("load without the byte cut off", 0, x::load);
        Check.put(x, TWO);
        x.truncate(0);
        edges.noSuchArgument("load with all cut off", x::load);
        edges.due("the end of the empty text", 0, x::errorPosition);
        Check.put(x, TWO + "????");
        x.truncate(TWO.length());
        Check.put(x, "wait 9;");
        edges.due("load of what was put behind the cut", 0, x::load);
        edges.due("its waiting time", 9, () -> x.count(5));
    }

    private static void truncatedLength() {
        edges.promise(3, "Returns the new length.");
        TrainTimetable x = new TrainTimetable();
        edges.due("0 of 0", 0, () -> x.truncate(0));
        x.append(0, 0, 0, 0, 0);
        for (int length = 20; length >= 0; length--) {
            int wanted = length;
            edges.due(length + " or less", length, () -> x.truncate(wanted));
        }
    }

    private static void truncateWrongly() {
        edges.promise(3, "Throws `IndexOutOfBoundsException` if length is negative or greater than the current length");
        TrainTimetable x = new TrainTimetable();
        edges.noSuchIndex("-1 of 0", () -> x.truncate(-1));
        edges.noSuchIndex("1 of 0", () -> x.truncate(1));
        x.append(0, 0, 0, 0, 0);
        edges.noSuchIndex("-1 of 20", () -> x.truncate(-1));
        edges.noSuchIndex("the least int", () -> x.truncate(Integer.MIN_VALUE));
        edges.noSuchIndex("21 of 20", () -> x.truncate(21));
        edges.noSuchIndex("the greatest int", () -> x.truncate(Integer.MAX_VALUE));
        edges.due("20 of 20", 20, () -> x.truncate(20));
        x.truncate(19);
        edges.noSuchIndex("20 of 19", () -> x.truncate(20));
        TrainTimetable full = new TrainTimetable();
        for (int i = 0; i < 25; i++) {
            full.append(0, 0, 0, 0, 0);
        }
        edges.noSuchIndex("501 of 500", () -> full.truncate(501));
        edges.due("500 of 500", 500, () -> full.truncate(500));
    }

    // ---- promise 4

    private static void loadAnew() {
        edges.promise(4, "Everything begins anew, without disturbances and supplements.");
        String full = EIGHT + ";headway 20;wait 60;" + "train 0 7 1000 5 20;".repeat(8) + "connect 0 1 6 30;".repeat(8);
        TrainTimetable x = disturbed(full);
        Check.put(x, full);
        edges.due("load of the same text", 8, x::load);
        edges.due("disturbances", 0, () -> x.count(3));
        edges.due("total delay", 0, x::totalDelay);
        edges.due("recovery", 0, x::recovery);
        for (int t = 0; t < 8; t++) {
            int train = t;
            edges.due("supplements of train " + t, 0, () -> x.train(train, 5));
            edges.due("planned order of train " + t, t, () -> x.order(false, 6, train));
            edges.due("actual order of train " + t, t, () -> x.order(true, 6, train));
        }
        edges.due("a planned time", 1000 + 28 * 5 + 6 * 20, () -> x.planned(0, 7, true));

        String shorter = THREE + "train 0 2 0 1 0;train 0 2 0 1 0;";
        TrainTimetable y = disturbed(full);
        Check.put(y, shorter);
        edges.due("load of a shorter text", 2, y::load);
        edges.equal("the state of a shorter line", State.of(Check.loaded(shorter)), State.of(y));

        // the train's first station is not the one that it was
        TrainTimetable w = Check.loaded(THREE + "train 1 2 1000 5 20;");
        Check.put(w, shorter);
        edges.due("load of a text with another first station", 2, w::load);
        edges.equal("the state of another first station", State.of(Check.loaded(shorter)), State.of(w));

        // nobody waits for a connection that there was
        TrainTimetable v = Check.loaded(shorter + "connect 0 1 1 30;".repeat(8));
        Check.put(v, shorter);
        edges.due("load of a text without connections", 2, v::load);
        edges.equal("the state without connections", State.of(Check.loaded(shorter)), State.of(v));

        TrainTimetable z = disturbed(full);
        Check.put(z, TWO);
        edges.due("load of a line without trains", 0, z::load);
        edges.equal("the state without trains", State.of(new TrainTimetable()), State.of(z));
    }

    /** A timetable of 8 stations and 8 trains on which nothing is as it was loaded. */
    private static TrainTimetable disturbed(String text) {
        TrainTimetable x = Check.loaded(text);
        for (int i = 0; i < 20; i++) {
            x.disturb(i % 8, i % 7, false, 120);
            x.setSupplement(i % 8, i % 7, 9);
        }
        x.plan(0, 0, 1);
        x.overtake(6, 6, 7);
        return x;
    }

    private static void bufferAfterLoad() {
        edges.promise(4, "The buffer is empty afterwards in every case.");
        for (String text : new String[] {TWO, TWO + "?", "", " ".repeat(500), "?".repeat(500)}) {
            TrainTimetable x = new TrainTimetable();
            Check.put(x, text);
            Check.outcome(x::load);
            String what = "after \"" + text.trim() + "\"";
            edges.noSuchIndex(what, () -> x.truncate(1));
            edges.due(what, 20, () -> x.append(0, 0, 0, 0, 0));
        }
    }

    private static void loadedTrains() {
        edges.promise(4, "Returns the number of trains.");
        for (int trains = 0; trains <= 8; trains++) {
            TrainTimetable x = new TrainTimetable();
            Check.put(x, THREE + "train 0 2 0 1 0;".repeat(trains));
            edges.due(trains + " trains", trains, x::load);
        }
    }

    private static void loadOfAnError() {
        edges.promise(4, "Throws `IllegalArgumentException` if the text has an error");
        TrainTimetable x = new TrainTimetable();
        edges.noSuchArgument("no text", x::load);
        for (int length = 0; length < TWO.length(); length++) {
            String part = TWO.substring(0, length);
            Check.put(x, part);
            edges.noSuchArgument("\"" + part + "\"", x::load);
        }
        Check.put(x, TWO);
        edges.due("the whole text", 0, x::load);
        Check.put(x, TWO + ";");
        edges.noSuchArgument("more than the whole text", x::load);
    }

    private static void stayingAfterAnError() {
        edges.promise(4, "everything else stays then, but the error code and position are set");
        String text = THREE + "headway 4;wait 6;train 0 2 0 1 0;train 0 2 0 1 2;train 1 2 3 1 0;connect 0 2 1 3;";
        String[] spoiled = {"", EIGHT + ";headway 20;wait 60;" + "train 0 7 1000 5 20;".repeat(8) + "connect 7 0 1 9;?",
            "line plain 60 plain;wait 0;headway 1;train 0 1 0 5 0;train 1", "line plain 3 plain 3 plain;train 0 3"};
        for (String wrong : spoiled) {
            TrainTimetable x = Check.loaded(text);
            TrainTimetable y = Check.loaded(text);
            for (TrainTimetable z : new TrainTimetable[] {x, y}) {
                z.setSupplement(0, 1, 2);
                z.plan(1, 1, 2);
                z.disturb(0, 1, true, 5);
                z.overtake(1, 0, 2);
            }
            Check.put(x, wrong);
            edges.noSuchArgument("load of \"" + wrong + "\"", x::load);
            edges.equal("the code and the position are set", true, x.errorCode() > 0 && x.errorPosition() >= 0);
            edges.equal("the state", withoutError(State.of(y)), withoutError(State.of(x)));
        }
    }

    private static String withoutError(String state) {
        return state.replaceAll("error(Code|Position)=.*\n", "");
    }

    // ---- promises 5 and 6

    /** A text for each code, from 0 on. */
    private static final String[] OF_CODES = {TWO, "?", "line siding 0", TWO + "wait 1;wait 1;",
        THREE + "train 0 2 0 1 0;connect 0 0 1 0;", TRAINS + "train"};

    private static void errorCode() {
        edges.promise(5, "Returns 1 to 5; 0 if there was no error or no call yet.");
        TrainTimetable x = new TrainTimetable();
        edges.due("no call yet", 0, x::errorCode);
        x.append(0, 0, 0, 0, 0);
        edges.due("no load yet", 0, x::errorCode);
        x.truncate(0);
        for (int code = 5; code >= 0; code--) {
            Check.put(x, OF_CODES[code]);
            Check.outcome(x::load);
            edges.due("a text with code " + code, code, x::errorCode);
        }
        Check.put(x, OF_CODES[4]);
        Check.outcome(x::load);
        edges.promise(5, "Returns the error code of the latest load().");
        x.append(0, 0, 0, 0, 0);
        edges.wrongState("a refused call between", () -> Check.loaded(TRAINS).plan(0, 1, 0));
        edges.noSuchIndex("a refused call between", () -> x.truncate(21));
        edges.due("the code stays until the next load", 4, x::errorCode);
        edges.due("and is not used up", 4, x::errorCode);
    }

    private static void errorPosition() {
        edges.promise(6, "Returns the position; NONE if there was no error or no call yet.");
        int[] positions = {NONE, 0, 12, TWO.length() + 7, THREE.length() + 26, TRAINS.length()};
        TrainTimetable x = new TrainTimetable();
        edges.due("no call yet", NONE, x::errorPosition);
        x.append(0, 0, 0, 0, 0);
        edges.due("no load yet", NONE, x::errorPosition);
        x.truncate(0);
        for (int code = 5; code >= 0; code--) {
            Check.put(x, OF_CODES[code]);
            Check.outcome(x::load);
            edges.due("a text with code " + code, positions[code], x::errorPosition);
        }
        Check.put(x, " ".repeat(500));
        Check.outcome(x::load);
        edges.promise(6, "Returns the position of the error of the latest load().");
        x.append(0, 0, 0, 0, 0);
        edges.due("the position stays until the next load", 500, x::errorPosition);
        edges.due("and is not used up", 500, x::errorPosition);
    }

    // ---- promise 4: the line

    private static void numberOfStations() {
        edges.ground(4, "There are 2 to 8 stations, numbered from 0");
        edges.wrong(1, "line siding|;");
        StringBuilder line = new StringBuilder("line siding");
        for (int stations = 2; stations <= 8; stations++) {
            line.append(" 1 plain");
            TrainTimetable x = Check.loaded(line + ";");
            int last = stations - 1;
            edges.due("stations", stations, () -> x.count(0));
            edges.due("the first of " + stations, true, () -> x.isSiding(0));
            edges.due("the last of " + stations, false, () -> x.isSiding(last));
            edges.noSuchIndex("one more than " + stations, () -> x.isSiding(last + 1));
        }
        edges.wrong(5, line + " |1 plain;");
    }

    private static void lengthsOfSegments() {
        edges.ground(4, "has a length from 1 to 60");
        edges.wrong(2, "line plain |0 plain;");
        edges.right("line plain 1 plain;");
        edges.right("line plain 60 plain;");
        edges.wrong(2, "line plain |61 plain;");
        edges.wrong(2, "line plain |9999 plain;");
        String seven = "line plain 1 plain 1 plain 1 plain 1 plain 1 plain 1 plain ";
        edges.wrong(2, seven + "|0 plain;");
        edges.right(seven + "1 plain;");
        edges.right(seven + "60 plain;");
        edges.wrong(2, seven + "|61 plain;");
        TrainTimetable x = Check.loaded("line plain 1 plain 60 plain;train 0 2 0 1 0;");
        edges.due("the arrival behind length 1", 1, () -> x.planned(0, 1, true));
        edges.due("the arrival behind length 60", 61, () -> x.planned(0, 2, true));
    }

    private static void numberOfTrains() {
        edges.ground(4, "There are at most 8 trains, numbered from 0.");
        edges.right("line siding 1 siding 1 siding;");
        edges.right(TRAINS);
        edges.wrong(5, TRAINS + "|train 0 2 0 1 0;");
        TrainTimetable x = Check.loaded(TRAINS);
        edges.noSuchIndex("train -1", () -> x.speed(-1));
        edges.due("train 0", 1.0, () -> x.speed(0));
        edges.due("train 7", 1.0, () -> x.speed(7));
        edges.noSuchIndex("train 8", () -> x.speed(8));
    }

    private static void numberOfConnections() {
        edges.ground(4, "There are at most 8 connections, numbered from 0.");
        edges.right(TRAINS);
        edges.right(CONNECTIONS);
        edges.wrong(5, CONNECTIONS + "|connect 0 1 1 0;");
        TrainTimetable x = Check.loaded(CONNECTIONS);
        edges.noSuchIndex("connection -1", () -> x.isKept(-1));
        edges.due("connection 0", true, () -> x.isKept(0));
        edges.due("connection 7", true, () -> x.isKept(7));
        edges.noSuchIndex("connection 8", () -> x.isKept(8));
    }

    // ---- promise 4: the text

    private static void lengthOfText() {
        edges.ground(4, "The text is collected in a text buffer of at most 500 bytes.");
        String blanks = " ".repeat(500 - TWO.length());
        edges.right(TWO + blanks);
        edges.right(blanks + TWO);
        edges.wrong(1, blanks + "line siding 1 siding|,");
        edges.wrong(1, TWO + blanks.substring(1) + "|;");
        edges.wrong(1, blanks + "line siding 1 siding |");
        edges.wrong(1, " ".repeat(500) + "|");
    }

    private static void longestTokens() {
        edges.ground(4, "Tokens are as long as possible");
        edges.right("line siding1siding;headway3;wait0;train0 1 0 1 0;");
        edges.wrong(1, "|linesiding 1 siding;");
        edges.wrong(1, "line |sidingplain 1 siding;");
        edges.wrong(1, "|lin e siding 1 siding;");
        edges.wrong(2, "line siding |61 siding;");
        edges.wrong(1, "line siding 6 |1 siding;");
        edges.wrong(1, TWO + "train 0 1 0 1|;");
        edges.wrong(2, TWO + "train 0 |10 1 0;");
    }

    private static void words() {
        edges.ground(4, "words (maximal runs of letters a to z)");
        for (String sign : new String[] {"`", "{", "A", "Z", "@", "[", "_", "\u00e9"}) {
            edges.wrong(1, "line |" + sign + "siding 1 siding;");
            edges.wrong(1, "line siding 1 siding|" + sign + ";");
        }
        for (String letter : new String[] {"a", "z"}) {
            edges.wrong(1, "line |" + letter + "siding 1 siding;");
            edges.wrong(1, "line siding 1 |siding" + letter + ";");
        }
        edges.wrong(1, "|" + "z".repeat(500));
        edges.wrong(1, "|LINE siding 1 siding;");
    }

    private static void numbers() {
        edges.ground(4, "numbers (maximal runs of 1 to 4 digits)");
        edges.wrong(1, "line siding |siding;");
        edges.right("line siding 1 siding;");
        edges.right("line siding 0001 siding;");
        edges.wrong(1, "line siding |00001 siding;");
        edges.wrong(2, "line siding |9999 siding;");
        edges.wrong(1, "line siding |10000 siding;");
        edges.wrong(1, "line siding |" + "1".repeat(480));
        for (String sign : new String[] {"/", ":", "-", "+", "."}) {
            edges.wrong(1, "line siding |" + sign + "1 siding;");
            edges.wrong(1, "line siding 1|" + sign + " siding;");
        }
        edges.right(TWO + "train 0000 0001 0999 0005 0020;");
    }

    private static void blanks() {
        edges.ground(4, "Blanks (bytes 10 and 32) may stand before, between and behind tokens.");
        edges.right("\n \n line\n\nsiding  1\nsiding ; \n");
        edges.right("line siding 1 siding;");
        for (int value = 0; value < 256; value++) {
            boolean isBlank = value == 10 || value == 32;
            String sign = new String(new byte[] {(byte) value}, StandardCharsets.ISO_8859_1);
            edges.loads(TWO + sign, isBlank ? 0 : 1, isBlank ? NONE : TWO.length());
            edges.loads(sign + TWO, isBlank ? 0 : 1, isBlank ? NONE : 0);
        }
        edges.wrong(1, "line |sid ing 1 siding;");
        edges.wrong(1, "line siding 1 |0 siding;");
    }

    private static void grammarOfText() {
        edges.ground(4, "text = \"line\" kind number kind { number kind } \";\" { setting \";\" } { train \";\" }"
                + " { connection \";\" }.");
        edges.right(TWO);
        edges.right(TWO + "wait 1;");
        edges.right(TWO + "train 0 1 0 1 0;");
        edges.right(TWO + "wait 1;headway 1;train 0 1 0 1 0;");
        edges.right(CONNECTIONS);
        edges.wrong(1, "|headway 3;" + TWO);
        edges.wrong(1, "line siding|;");
        edges.wrong(1, "line siding 1|;");
        edges.wrong(1, "line siding 1 siding 1|;");
        edges.wrong(1, TWO + "|;");
        edges.wrong(1, TWO + "|" + TWO);
        edges.wrong(1, TWO + "train 0 1 0 1 0;|wait 1;");
        edges.wrong(1, CONNECTIONS + "|train 0 1 0 1 0;");
        edges.wrong(1, CONNECTIONS + "|headway 1;");
        edges.wrong(1, TWO + "wait 1 |train 0 1 0 1 0;");
        edges.wrong(1, TWO + "train 0 1 0 1 0 |train 0 1 0 1 0;");
        edges.wrong(1, TRAINS + "connect 0 1 1 0|");
    }

    private static void grammarOfKind() {
        edges.ground(4, "kind = \"plain\" | \"siding\".");
        edges.right("line plain 1 siding;");
        edges.right("line siding 1 plain;");
        edges.wrong(1, "line |plai 1 siding;");
        edges.wrong(1, "line |plains 1 siding;");
        edges.wrong(1, "line |line 1 siding;");
        edges.wrong(1, "line plain 1 |;");
        edges.wrong(1, "line plain 1 plain 1 |2 plain;");
    }

    private static void grammarOfSetting() {
        edges.ground(4, "setting = \"headway\" number | \"wait\" number.");
        edges.right(TWO + "headway 3;");
        edges.right(TWO + "wait 3;");
        edges.wrong(1, TWO + "headway|;");
        edges.wrong(1, TWO + "wait |wait 3;");
        edges.wrong(1, TWO + "wait 3 |3;");
        edges.wrong(1, TWO + "|waits 3;");
        edges.wrong(1, TWO + "wait 3|");
    }

    private static void grammarOfTrain() {
        edges.ground(4, "train = \"train\" number number number number number.");
        edges.right(TWO + "train 0 1 0 1 0;");
        for (String part : new String[] {"train|", "train 0|", "train 0 1|", "train 0 1 0|", "train 0 1 0 1|"}) {
            edges.wrong(1, TWO + part + ";");
            edges.wrong(1, TWO + part);
        }
        edges.wrong(1, TWO + "train 0 1 0 1 0 |0;");
        edges.wrong(1, TWO + "|trains 0 1 0 1 0;");
        edges.wrong(1, TWO + "train |train 0 1 0 1 0;");
    }

    private static void grammarOfConnection() {
        edges.ground(4, "connection = \"connect\" number number number number.");
        edges.right(TRAINS + "connect 0 1 1 0;");
        for (String part : new String[] {"connect|", "connect 0|", "connect 0 1|", "connect 0 1 1|"}) {
            edges.wrong(1, TRAINS + part + ";");
            edges.wrong(1, TRAINS + part);
        }
        edges.wrong(1, TRAINS + "connect 0 1 1 0 |0;");
        edges.wrong(1, TRAINS + "|connection 0 1 1 0;");
    }

    private static void headwayAndWait() {
        edges.ground(4, "headway gives H, 1 to 20 (3 without the setting), wait the waiting time, 0 to 60 (5 without it).");
        edges.wrong(2, TWO + "headway |0;");
        edges.wrong(2, TWO + "headway |21;");
        edges.wrong(2, TWO + "wait |61;");
        int[][] settings = {{1, 0}, {20, 60}, {20, 0}, {1, 60}};
        for (int[] setting : settings) {
            TrainTimetable x = Check.loaded(TWO + "headway " + setting[0] + ";wait " + setting[1] + ";");
            edges.due("headway", setting[0], () -> x.count(4));
            edges.due("waiting time", setting[1], () -> x.count(5));
            Check.put(x, TWO + "wait 7;");
            x.load();
            edges.due("headway without the setting", 3, () -> x.count(4));
            edges.due("waiting time with the setting alone", 7, () -> x.count(5));
            Check.put(x, TWO + "headway 7;");
            x.load();
            edges.due("headway with the setting alone", 7, () -> x.count(4));
            edges.due("waiting time without it", 5, () -> x.count(5));
        }
    }

    private static void numbersOfTrain() {
        edges.ground(4, "The numbers of train are the first station, the last station, the start time (0 to 1000), the"
                + " pace (1 to 5) and the dwell time (0 to 20).");
        int[][] trains = {{0, 1, 0, 1, 0}, {0, 2, 1000, 5, 20}, {1, 2, 999, 4, 19}};
        for (int[] train : trains) {
            TrainTimetable x = Check.loaded(THREE + "train " + train[0] + " " + train[1] + " " + train[2] + " "
                    + train[3] + " " + train[4] + ";");
            for (int i = 0; i < 5; i++) {
                int what = i;
                edges.due("number " + i, train[i], () -> x.train(0, what));
            }
        }
        edges.wrong(2, THREE + "train |3 2 0 1 0;");
        edges.wrong(2, THREE + "train 0 |3 0 1 0;");
        edges.wrong(2, THREE + "train 0 |0 0 1 0;");
        edges.wrong(2, THREE + "train 0 1 |1001 1 0;");
        edges.wrong(2, THREE + "train 0 1 0 |0 0;");
        edges.wrong(2, THREE + "train 0 1 0 |6 0;");
        edges.wrong(2, THREE + "train 0 1 0 1 |21;");
    }

    private static void numbersOfConnection() {
        edges.ground(4, "The numbers of connection are the trains A and B, the station, and the minutes (0 to 30).");
        edges.right(TRAINS + "connect 0 7 1 0;");
        edges.right(TRAINS + "connect 7 0 1 30;");
        edges.wrong(2, TRAINS + "connect |8 0 1 0;");
        edges.wrong(2, TRAINS + "connect 0 |8 1 0;");
        edges.wrong(2, TRAINS + "connect 0 1 |3 0;");
        edges.wrong(2, TRAINS + "connect 0 1 1 |31;");
        edges.wrong(2, TWO + "connect |0 1 1 0;");
        TrainTimetable x = Check.loaded(THREE + "train 0 1 0 1 0;train 1 2 0 1 0;connect 0 1 1 30;");
        edges.due("the departure behind 30 minutes", 40, () -> x.planned(1, 1, false));
        TrainTimetable y = Check.loaded(THREE + "train 0 1 0 1 0;train 1 2 0 1 0;connect 0 1 1 0;");
        edges.due("the departure behind 0 minutes", 10, () -> y.planned(1, 1, false));
    }

    // ---- promise 4: errors

    private static void positionOfErrors() {
        edges.ground(4, "The position of an error is the byte offset of the first byte of a token; the end has the text"
                + " length as its position.");
        edges.wrong(1, "|");
        edges.wrong(1, "|x");
        edges.wrong(1, " \n|xyz line");
        edges.wrong(1, "line  |");
        edges.wrong(1, "line siding 1 siding|");
        edges.wrong(1, "line siding 1 siding\n\n|");
        edges.wrong(2, "line siding  |0061 siding;");
        edges.wrong(1, "line siding  |00061 siding;");
        edges.wrong(1, " ".repeat(500) + "|");
    }

    private static void firstError() {
        edges.ground(4, "The first error from the left is reported; of several at the same position, the one with the"
                + " lowest code.");
        edges.wrong(2, TWO + "headway |0 ?");
        edges.wrong(1, TWO + "headway |? 0");
        edges.wrong(2, TWO + "headway |21;headway 3;");
        edges.wrong(3, TWO + "headway 3;|headway 0;");
        edges.wrong(4, TRAINS + "connect 1 |1 9 99;");
        edges.wrong(2, TRAINS + "connect |8 8 9 99;");
        // the number of an 8th segment that is out of range
        edges.wrong(2, EIGHT + " |0 siding;");
        edges.wrong(2, EIGHT + " |61 siding;");
        edges.wrong(1, EIGHT + " |00001 siding;");
        edges.wrong(5, EIGHT + " |60 siding;");
        // a setting that the text has already, where no setting can stand
        edges.wrong(1, TWO + "headway 3;train 0 1 0 1 0;|headway 3;");
        // a 9th train where no train can stand
        edges.wrong(1, CONNECTIONS + "|train 0 2 0 1 0;");
        // a station of a connection that is no station is no plain one
        edges.wrong(2, TRAINS + "connect 0 1 |3 0;");
    }

    private static void code1() {
        edges.ground(4, "Code 1: a token that cannot stand there, a run of more than 4 digits, a byte that starts no"
                + " token, or the end.");
        edges.wrong(1, "|siding");
        edges.wrong(1, "line |12");
        edges.wrong(1, "line |;");
        edges.wrong(1, TWO + "|7");
        edges.right(TWO + "wait 0060;");
        edges.wrong(1, TWO + "wait |00060;");
        edges.wrong(1, TWO + "|12345");
        edges.wrong(1, TWO + "wait |,");
        edges.wrong(1, TWO + "|\0");
        edges.wrong(1, TWO + "|\u00ff");
        edges.wrong(1, TWO + "wait|");
        edges.wrong(1, TWO + "wait 6|");
    }

    private static void code2() {
        edges.ground(4, "Code 2: a number is out of range (for a last station: not greater than the first station, or no"
                + " station).");
        edges.wrong(2, THREE + "train 1 |0 0 1 0;");
        edges.wrong(2, THREE + "train 1 |1 0 1 0;");
        edges.right(THREE + "train 1 2 0 1 0;");
        edges.wrong(2, THREE + "train 1 |3 0 1 0;");
        edges.wrong(2, THREE + "train 0 |9999 0 1 0;");
        edges.wrong(2, EIGHT + ";train 0 |8 0 1 0;");
        edges.right(EIGHT + ";train 0 7 0 1 0;");
        edges.right(EIGHT + ";train 6 7 0 1 0;");
        // station 2 is a station, too, but none is greater
        edges.wrong(2, THREE + "train 2 |2 0 1 0;");
        edges.wrong(2, THREE + "train 2 |3 0 1 0;");
        edges.wrong(2, THREE + "train |3 4 0 1 0;");
    }

    private static void code3() {
        edges.ground(4, "Code 3: the first word of a setting that the text has already.");
        edges.right(TWO + "headway 3;wait 3;");
        edges.right(TWO + "wait 3;headway 3;");
        edges.wrong(3, TWO + "headway 3;|headway 3;");
        edges.wrong(3, TWO + "wait 3;|wait 3;");
        edges.wrong(3, TWO + "wait 3;headway 3;|wait 3;");
        edges.wrong(3, TWO + "wait 3;headway 3;|headway");
        edges.wrong(3, TWO + "wait 3;|wait ?");
        edges.wrong(1, TWO + "wait 3;|waiting 3;");
    }

    private static void code4() {
        edges.ground(4, "Code 4: the number B of a connection that is A; the station of a connection that is plain, at"
                + " which A does not arrive, or from which B does not depart.");
        String text = "line siding 1 siding 1 plain 1 siding 1 siding;train 0 3 0 1 0;train 1 4 0 1 0;connect ";
        edges.wrong(4, text + "0 |0 1 0;");
        edges.wrong(4, text + "1 |1 1 0;");
        edges.wrong(4, text + "0 1 |2 0;");
        // train 0 arrives at stations 1 to 3, train 1 departs from stations 1 to 3
        edges.wrong(4, text + "0 1 |0 0;");
        edges.right(text + "0 1 1 0;");
        edges.right(text + "0 1 3 0;");
        edges.wrong(4, text + "0 1 |4 0;");
        // train 1 arrives at stations 2 to 4, train 0 departs from stations 0 to 2
        for (int station : new int[] {0, 1, 2, 3, 4}) {
            edges.wrong(4, text + "1 0 |" + station + " 0;");
        }
    }

    private static void code5() {
        edges.ground(4, "Code 5: the number of an 8th segment, the word \"train\" of a 9th train, or the word \"connect\""
                + " of a 9th connection.");
        edges.right(EIGHT + ";");
        edges.wrong(5, EIGHT + " |1 siding;");
        edges.wrong(5, EIGHT + " |60");
        edges.right(TRAINS);
        edges.wrong(5, TRAINS + "|train 0 2 0 1 0;");
        edges.wrong(5, TRAINS + "|train");
        edges.wrong(1, TRAINS + "|trains");
        edges.right(CONNECTIONS);
        edges.wrong(5, CONNECTIONS + "|connect 0 1 1 0;");
        edges.wrong(5, CONNECTIONS + "|connect");
        edges.wrong(5, TRAINS + "connect 0 1 1 0;".repeat(8) + "|connect 0 0 1 0;");
    }
}
