/** All that a timetable tells, as one text: equal texts are equal states. */
final class State {
    /** A timetable is used for at most 512 calls, and some are made before and behind these. */
    private static final int MAX_CALLS = 400;

    private final TrainTimetable timetable;
    private final StringBuilder text = new StringBuilder();
    private final int stations;
    private final int trains;
    private final int connections;
    private int calls;

    private State(TrainTimetable timetable) {
        this.timetable = timetable;
        stations = timetable.count(0);
        trains = timetable.count(1);
        connections = timetable.count(2);
    }

    /** Without the text buffer, which tells nothing before it is loaded. */
    static String of(TrainTimetable timetable) {
        State state = new State(timetable);
        state.tellLine();
        state.tellTimes();
        state.tellDelays();
        return state.text.toString();
    }

    private void tell(String what, Check.Call call) {
        calls++;
        if (calls > MAX_CALLS) {
            throw new AssertionError("the line is too large to tell all");
        }
        text.append(what).append('=').append(Check.outcome(call)).append('\n');
    }

    private void tellLine() {
        tell("errorCode", timetable::errorCode);
        tell("errorPosition", timetable::errorPosition);
        for (int i = 0; i < 6; i++) {
            int what = i;
            tell("count " + i, () -> timetable.count(what));
            for (int t = 0; t < trains; t++) {
                int train = t;
                tell("train " + t + " " + i, () -> timetable.train(train, what));
            }
        }
        for (int s = 0; s < stations; s++) {
            int station = s;
            tell("isSiding " + s, () -> timetable.isSiding(station));
            for (int t = 0; t < trains; t++) {
                int index = t;
                tell("planned order " + s + " " + t, () -> timetable.order(false, station, index));
                tell("actual order " + s + " " + t, () -> timetable.order(true, station, index));
            }
        }
    }

    private void tellTimes() {
        tell("lastArrival", timetable::lastArrival);
        for (int t = 0; t < trains; t++) {
            int train = t;
            tell("speed " + t, () -> timetable.speed(train));
            tell("leastDelay " + t, () -> timetable.leastDelay(train, 2));
            for (int s = 0; s < stations; s++) {
                int station = s;
                String at = t + " " + s;
                tell("supplement " + at, () -> timetable.supplement(train, station));
                tell("buffer " + at, () -> timetable.buffer(train, station));
                tell("tolerance " + at, () -> timetable.tolerance(train, station));
                for (boolean isArrival : new boolean[] {false, true}) {
                    tell("planned " + at, () -> timetable.planned(train, station, isArrival));
                    tell("actual " + at, () -> timetable.actual(train, station, isArrival));
                    tell("cause " + at, () -> timetable.cause(train, station, isArrival));
                }
            }
        }
    }

    private void tellDelays() {
        tell("totalDelay", timetable::totalDelay);
        tell("lateTrains", timetable::lateTrains);
        tell("punctuality", () -> timetable.punctuality(0));
        tell("missed", timetable::missed);
        tell("recovery", timetable::recovery);
        tell("bestOvertaking", timetable::bestOvertaking);
        for (int i = 0; i < connections; i++) {
            int connection = i;
            tell("isKept " + i, () -> timetable.isKept(connection));
        }
    }
}
