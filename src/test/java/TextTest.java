import java.util.Arrays;

/** Promises 1 to 6: a new object, append, truncate, load, errorCode, errorPosition. */
public final class TextTest {
    private static final String TWO = "line siding 1 siding;";
    private static final String THREE = "line siding 10 plain 20 siding;";
    private static final String TWO_TRAINS = THREE + "train 0 2 0 1 0;train 1 2 0 1 0;";

    private static final Check check = new Check();

    public static void main(String[] args) {
        newObject();
        append();
        truncate();
        load();
        loadLess();
        failedLoad();
        limits();
        tokens();
        endOfText();
        places();
        ranges();
        settings();
        connections();
        tooMany();
        check.end();
    }

    private static void newObject() {
        TrainTimetable x = new TrainTimetable();
        check.due("new: stations", 2, () -> x.count(0));
        check.due("new: trains", 0, () -> x.count(1));
        check.due("new: connections", 0, () -> x.count(2));
        check.due("new: disturbances", 0, () -> x.count(3));
        check.due("new: headway", 3, () -> x.count(4));
        check.due("new: waiting time", 5, () -> x.count(5));
        check.due("new: siding 0", true, () -> x.isSiding(0));
        check.due("new: siding 1", true, () -> x.isSiding(1));
        check.noSuchIndex("new: siding 2", () -> x.isSiding(2));
        check.due("new: errorCode", 0, x::errorCode);
        check.due("new: errorPosition", TrainTimetable.NONE, x::errorPosition);
        check.due("new: the buffer is empty", 0, () -> x.truncate(0));
        check.noSuchIndex("new: the buffer is empty", () -> x.truncate(1));
        check.due("new: totalDelay", 0, x::totalDelay);
        check.due("new: lateTrains", 0, x::lateTrains);
        check.due("new: missed", 0, x::missed);
        check.due("new: recovery", 0, x::recovery);
        check.due("new: bestOvertaking", TrainTimetable.NONE, x::bestOvertaking);
        check.due("new: dispatch", 0, x::dispatch);
        check.due("new: clear", 0, x::clear);
    }

    private static void append() {
        TrainTimetable x = new TrainTimetable();
        for (int i = 1; i <= 25; i++) {
            int length = 20 * i;
            check.due("append " + i, length, () -> x.append(0, 0, 0, 0, 0));
        }
        check.wrongState("append beyond 500", () -> x.append(0, 0, 0, 0, 0));
        check.due("the length after a refused append", 500, () -> x.truncate(500));
        check.due("truncate to 481", 481, () -> x.truncate(481));
        check.wrongState("append at 481", () -> x.append(0, 0, 0, 0, 0));
        check.due("truncate to 480", 480, () -> x.truncate(480));
        check.due("append at 480", 500, () -> x.append(0, 0, 0, 0, 0));

        // "line siding 1 siding" with every byte in its place, then ";" as the most significant byte
        TrainTimetable y = new TrainTimetable();
        y.append(0x6c696e65, 0x20736964, 0x696e6720, 0x31207369, 0x64696e67);
        y.append(0x3bffffff, -1, -1, -1, -1);
        y.truncate(21);
        check.due("bytes of append", 0, y::load);
    }

    private static void truncate() {
        TrainTimetable x = new TrainTimetable();
        check.noSuchIndex("truncate(-1)", () -> x.truncate(-1));
        x.append(1, 2, 3, 4, 5);
        check.noSuchIndex("truncate beyond the length", () -> x.truncate(21));
        check.noSuchIndex("truncate(-1) of a text", () -> x.truncate(-1));
        check.noSuchIndex("truncate to the least int", () -> x.truncate(Integer.MIN_VALUE));
        check.due("truncate to the length", 20, () -> x.truncate(20));
        check.due("truncate to 7", 7, () -> x.truncate(7));
        check.noSuchIndex("truncate back to 8", () -> x.truncate(8));
        check.due("append behind 7", 27, () -> x.append(0, 0, 0, 0, 0));
        check.due("truncate to 0", 0, () -> x.truncate(0));
        Check.put(x, TWO);
        check.due("load what was put behind a truncation", 0, x::load);
    }

    private static void load() {
        TrainTimetable x = new TrainTimetable();
        Check.put(x, "line plain 7 siding 60 plain;headway 20;wait 60;train 0 2 1000 5 20;train 1 2 0 1 0;"
                + "connect 0 1 1 30;");
        check.due("load", 2, x::load);
        check.due("errorCode after a load", 0, x::errorCode);
        check.due("errorPosition after a load", -1, x::errorPosition);
        check.due("the buffer after a load", 0, () -> x.truncate(0));
        check.noSuchIndex("the buffer after a load", () -> x.truncate(1));
        check.due("stations", 3, () -> x.count(0));
        check.due("connections", 1, () -> x.count(2));
        check.due("headway", 20, () -> x.count(4));
        check.due("waiting time", 60, () -> x.count(5));
        check.due("station 0", false, () -> x.isSiding(0));
        check.due("station 1", true, () -> x.isSiding(1));
        check.due("station 2", false, () -> x.isSiding(2));

        x.setSupplement(0, 0, 9);
        x.disturb(0, 0, false, 120);
        x.plan(1, 1, 0);
        Check.put(x, TWO_TRAINS);
        check.due("load again", 2, x::load);
        check.due("supplements begin anew", 0, () -> x.train(0, 5));
        check.due("disturbances begin anew", 0, () -> x.count(3));
        check.due("delays begin anew", 0, x::totalDelay);
        check.due("headway begins anew", 3, () -> x.count(4));
        check.due("waiting time begins anew", 5, () -> x.count(5));
        check.due("connections begin anew", 0, () -> x.count(2));
        check.due("planned orders begin anew", 0, () -> x.order(false, 1, 0));
        check.due("actual orders begin anew", 0, () -> x.order(true, 1, 0));
        check.due("sidings begin anew", true, () -> x.isSiding(0));
        check.due("plain stations begin anew", false, () -> x.isSiding(1));
        check.due("planned times begin anew", 10, () -> x.planned(0, 1, true));
        Check.put(x, TWO);
        check.due("load without trains", 0, x::load);
        check.due("no trains", 0, () -> x.count(1));
    }

    /** Nothing of a longer text is left behind a shorter one. */
    private static void loadLess() {
        TrainTimetable x = Check.loaded("line siding 10 siding 10 plain 10 siding 60 siding;headway 20;wait 0;"
                + "train 0 4 900 5 20;train 1 4 1000 5 20;train 0 4 1000 5 20;connect 0 1 1 30;connect 0 2 1 30;");
        x.setSupplement(1, 1, 9);
        x.setSupplement(0, 2, 9);
        x.disturb(0, 2, true, 120);
        x.disturb(2, 0, false, 120);
        x.overtake(1, 0, 1);
        Check.put(x, "line plain 10 siding 10 siding;train 1 2 5 1 0;");
        check.due("load", 1, x::load);
        check.due("planned departure", 5, () -> x.planned(0, 1, false));
        check.due("planned arrival", 15, () -> x.planned(0, 2, true));
        check.due("actual arrival", 15, () -> x.actual(0, 2, true));
        check.due("lastArrival", 15, x::lastArrival);
        check.due("lateTrains", 0, x::lateTrains);
        check.due("totalDelay", 0, x::totalDelay);
        check.due("recovery", 0, x::recovery);
        check.due("missed", 0, x::missed);
        check.due("bestOvertaking", -1, x::bestOvertaking);
        check.noSuchIndex("a former train", () -> x.supplement(1, 1));
        check.noSuchIndex("a former connection", () -> x.isKept(0));
        check.noSuchIndex("a former station", () -> x.isSiding(3));
        Check.put(x, "line siding 10 siding 10 siding;train 0 2 0 1 0;");
        check.due("load another", 1, x::load);
        check.due("departure from a former first station", 10, () -> x.planned(0, 1, false));
        x.disturb(0, 0, false, 1);
        check.due("totalDelay of one train", 2, x::totalDelay);
        check.due("lateTrains of one train", 1, x::lateTrains);
        check.due("recovery of one train", 22, x::recovery);
    }

    private static void failedLoad() {
        TrainTimetable x = Check.loaded(TWO_TRAINS);
        x.disturb(0, 0, false, 7);
        x.setSupplement(0, 1, 2);
        int delay = x.totalDelay();
        Check.put(x, "line plain 3 plain 4 plain 5 plain;headway 9;wait 1;train 0 1 0 1 0;oops");
        check.noSuchArgument("load of a wrong text", x::load);
        check.due("errorCode", 1, x::errorCode);
        check.due("errorPosition", 68, x::errorPosition);
        check.due("the buffer is empty then", 0, () -> x.truncate(0));
        check.noSuchIndex("the buffer is empty then", () -> x.truncate(1));
        check.due("stations stay", 3, () -> x.count(0));
        check.due("trains stay", 2, () -> x.count(1));
        check.due("disturbances stay", 1, () -> x.count(3));
        check.due("headway stays", 3, () -> x.count(4));
        check.due("waiting time stays", 5, () -> x.count(5));
        check.due("supplements stay", 2, () -> x.supplement(0, 1));
        check.due("delay stays", delay, x::totalDelay);
        check.due("kinds stay", true, () -> x.isSiding(0));
        x.append(0, 0, 0, 0, 0);
        check.due("errorCode stays until the next load", 1, x::errorCode);
        check.due("errorPosition stays until the next load", 68, x::errorPosition);
        x.truncate(0);
        Check.put(x, TWO);
        check.due("load of a right text", 0, x::load);
        check.due("errorCode is 0 then", 0, x::errorCode);
        check.due("errorPosition is NONE then", -1, x::errorPosition);
    }

    /** Expects an error; a position of -1 expects none. */
    private static void error(String text, int code, int position) {
        TrainTimetable x = new TrainTimetable();
        Check.put(x, text);
        Object outcome = Check.outcome(x::load);
        String what = "\"" + text + "\"";
        check.equal("load of " + what, code != 0, outcome.equals("IllegalArgumentException"));
        check.due("errorCode of " + what, code, x::errorCode);
        check.due("errorPosition of " + what, position, x::errorPosition);
    }

    private static void right(String text) {
        error(text, 0, -1);
    }

    private static void limits() {
        char[] blanks = new char[500 - TWO.length()];
        Arrays.fill(blanks, ' ');
        right(TWO + new String(blanks));
        right(new String(blanks) + TWO);
        error(new String(blanks) + TWO.substring(0, 20) + " ", 1, 500);
    }

    private static void tokens() {
        right("\n line\nsiding 1 siding ;\n");
        right("line siding1siding;headway3;wait0;train0 1 0 1 0;");
        right("line siding 0001 siding;train 0 0001 0999 0005 00;");
        error("linesiding 1 siding;", 1, 0);
        error("linez siding 1 siding;", 1, 0);
        error("mine siding 1 siding;", 1, 0);
        error("lind siding 1 siding;", 1, 0);
        error("line sidings 1 siding;", 1, 5);
        error("line Siding 1 siding;", 1, 5);
        error("line siding 00001 siding;", 1, 12);
        error("line siding 12345 siding;", 1, 12);
        error("line\tsiding 1 siding;", 1, 4);
        error("line siding 1 siding;\r", 1, 21);
        error("line siding 1 siding;\0", 1, 21);
        error("line siding 1 siding\u00e9;", 1, 20);
        error("line siding 1 siding,", 1, 20);
        error("line siding -1 siding;", 1, 12);
        error("line siding 1 siding{;", 1, 20);
        error("line siding 1 siding`;", 1, 20);
        error("line siding 1: siding;", 1, 13);
        error("line siding 1/ siding;", 1, 13);
    }

    private static void endOfText() {
        error("", 1, 0);
        error("   ", 1, 3);
        error("line", 1, 4);
        error("line  ", 1, 6);
        error("line siding", 1, 11);
        error("line siding 1", 1, 13);
        error("line siding 1 siding", 1, 20);
        error(TWO + "headway", 1, 28);
        error(TWO + "headway 3 ", 1, 31);
        error(TWO + "train 0 1 0 1 0\n", 1, 37);
        error(TWO_TRAINS + "connect 0 1", 1, TWO_TRAINS.length() + 11);
    }

    private static void places() {
        error("siding 1 siding;", 1, 0);
        error("1", 1, 0);
        error(";", 1, 0);
        error("line 1 siding;", 1, 5);
        error("line siding;", 1, 11);
        error("line siding siding;", 1, 12);
        error("line siding 1 2 siding;", 1, 14);
        error("line siding 1 siding 2;", 1, 22);
        error("line siding 1 siding plain;", 1, 21);
        error(TWO + ";", 1, 21);
        error(TWO + "7", 1, 21);
        error(TWO + "line", 1, 21);
        error(TWO + "headway 3 4;", 1, 31);
        error(TWO + "headway;", 1, 28);
        error(TWO + "headway wait", 1, 29);
        error(TWO + "headway headway", 1, 29);
        error(TWO + "train 0 1 0 1;", 1, 34);
        error(TWO + "train 0 1 0 1 0 0;", 1, 37);
        error(TWO + "train 0 1 0 1 0;wait 3;", 1, 37);
        error(TWO + "headway 3;train 0 1 0 1 0;headway 3;", 1, 47);
        error(TWO_TRAINS + "connect;", 1, TWO_TRAINS.length() + 7);
        String connected = "line siding 1 siding 1 siding;train 0 2 0 1 0;train 0 2 0 1 0;connect 0 1 1 0;";
        right(connected);
        error(connected + "train 0 2 0 1 0;", 1, connected.length());
        error(connected + "headway 3;", 1, connected.length());
        error(connected + "wait 3;", 1, connected.length());
        error(connected + "connects 0 1 1 0;", 1, connected.length());
    }

    private static void ranges() {
        error("line siding 0 siding;", 2, 12);
        error("line siding 61 siding;", 2, 12);
        right("line siding 60 siding;");
        error("line siding 1 siding 61 siding;", 2, 21);
        error(TWO + "headway 0;", 2, 29);
        error(TWO + "headway 21;", 2, 29);
        right(TWO + "headway 1;");
        right(TWO + "headway 20;");
        error(TWO + "wait 61;", 2, 26);
        right(TWO + "wait 0;");
        right(TWO + "wait 60;");
        error(TWO + "train 2 1 0 1 0;", 2, 27);
        // the last station of the line is a station, too; it is the second number that is wrong then
        error(TWO + "train 1 1 0 1 0;", 2, 29);
        error(TWO + "train 1 2 0 1 0;", 2, 29);
        error(TWO + "train 0 0 0 1 0;", 2, 29);
        error(TWO + "train 0 2 0 1 0;", 2, 29);
        error(THREE + "train 1 0 0 1 0;", 2, 39);
        error(TWO + "train 0 1 1001 1 0;", 2, 31);
        right(TWO + "train 0 1 1000 1 0;");
        error(TWO + "train 0 1 0 0 0;", 2, 33);
        error(TWO + "train 0 1 0 6 0;", 2, 33);
        right(TWO + "train 0 1 0 5 0;");
        error(TWO + "train 0 1 0 1 21;", 2, 35);
        right(TWO + "train 0 1 0 1 20;");
        // the first error from the left counts
        error(TWO + "headway 0 ?", 2, 29);
        error(TWO + "headway ? 0", 1, 29);
        error(TWO + "train 0 1 0 9 99 ?", 2, 33);
    }

    private static void settings() {
        right(TWO + "wait 1;headway 2;");
        right(TWO + "headway 2;wait 1;");
        error(TWO + "headway 3; headway 3;", 3, 32);
        error(TWO + "wait 3;wait 3;", 3, 28);
        error(TWO + "wait 3;headway 3;wait 3;", 3, 38);
        error(TWO + "headway 3;wait 3;headway ?;", 3, 38);
        error(TWO + "headway 3;wait 3;wait 99;", 3, 38);
    }

    private static void connections() {
        String text = "line siding 1 siding 1 plain 1 siding 1 siding;"
                + "train 0 3 0 1 0;train 1 4 0 1 0;train 3 4 0 1 0;connect ";
        int at = text.length();
        right(text + "0 1 1 0;");
        right(text + "0 1 3 30;");
        right(text + "0 2 3 30;");
        error(text + "3 1 1 0;", 2, at);
        error(text + "0 3 1 0;", 2, at + 2);
        error(text + "0 0 1 0;", 4, at + 2);
        error(text + "2 2 9 0;", 4, at + 2);
        error(text + "0 1 5 0;", 2, at + 4);
        error(text + "0 1 2 0;", 4, at + 4);
        error(text + "0 1 0 0;", 4, at + 4);
        error(text + "1 0 1 0;", 4, at + 4);
        error(text + "1 0 3 0;", 4, at + 4);
        error(text + "0 1 4 0;", 4, at + 4);
        error(text + "1 2 4 0;", 4, at + 4);
        error(text + "0 2 1 0;", 4, at + 4);
        error(text + "0 1 1 31;", 2, at + 6);
        error(text + "0 1 1 0 0;", 1, at + 8);
        error(text + "0 1 1;", 1, at + 5);
        error(TWO + "connect 0 1 1 0;", 2, 29);
        error(TWO + "connect 9999 1 1 0;", 2, 29);
        error(TWO + "connect ;", 1, 29);
    }

    private static void tooMany() {
        String line = "line siding 1 siding 2 siding 3 siding 4 siding 5 siding 6 siding 7 siding";
        right(line + ";");
        error(line + " 8 siding;", 5, line.length() + 1);
        error(line + " 8", 5, line.length() + 1);
        error(line + " 1 siding;", 5, line.length() + 1);
        error(line + " 60 siding;", 5, line.length() + 1);
        // of several errors at the same position, the one with the lowest code
        error(line + " 61 siding;", 2, line.length() + 1);
        error(line + " 0 siding;", 2, line.length() + 1);
        error(line + " 12345 siding;", 1, line.length() + 1);
        error(line + " siding;", 1, line.length() + 1);

        String trains = "line siding 1 siding 1 siding;" + "train 0 2 0 1 0;".repeat(8);
        right(trains);
        error(trains + "train", 5, trains.length());
        error(trains + " train 9 9 9 9 9;", 5, trains.length() + 1);
        error(trains + "wait 5;", 1, trains.length());

        String links = trains + "connect 0 1 1 0;".repeat(8);
        right(links);
        error(links + "connect", 5, links.length());
        error(links + "\nconnect 0 0", 5, links.length() + 1);
        error(links + "train", 1, links.length());
    }
}
