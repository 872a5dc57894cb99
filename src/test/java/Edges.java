import java.io.IOException;
import java.io.UncheckedIOException;
import java.util.ArrayList;
import java.util.HashMap;
import java.util.List;
import java.util.Map;

/**
 * Checks of boundary cases. Each belongs to a sentence of the document, which is named by its words and
 * by the number of the promise; what is printed of a wrong answer bears both.
 */
final class Edges extends Check {
    private final int firstPromise;
    private final int lastPromise;
    private final Document document;
    private final Map<Integer, List<String>> named = new HashMap<>();

    Edges(int firstPromise, int lastPromise) {
        this.firstPromise = firstPromise;
        this.lastPromise = lastPromise;
        try {
            document = new Document();
        } catch (IOException e) {
            throw new UncheckedIOException(e);
        }
    }

    /** The checks that follow are of a sentence under the heading of a promise. */
    void promise(int number, String sentence) {
        heading(number, sentence);
        named.computeIfAbsent(number, key -> new ArrayList<>()).add(sentence);
        equal("the document says so", true, document.saysUnder(number, sentence));
    }

    /** The checks that follow are of a sentence that a promise rests on and that stands before all promises. */
    void ground(int number, String sentence) {
        heading(number, sentence);
        equal("the document says so", true, document.saysOutsideOfPromises(sentence));
    }

    private void heading(int number, String sentence) {
        heading("promise " + number + ", \"" + sentence + "\": ");
    }

    /** What the text does when it is loaded into a new timetable: its error, or none for code 0. */
    void loads(String text, int code, int position) {
        TrainTimetable x = new TrainTimetable();
        put(x, text);
        Object outcome = outcome(x::load);
        String what = "load of \"" + text + "\"";
        equal(what + " throws", code != 0, outcome.equals("IllegalArgumentException"));
        equal(what + " sets the code", code, x.errorCode());
        equal(what + " sets the position", position, x.errorPosition());
    }

    void right(String text) {
        loads(text, 0, TrainTimetable.NONE);
    }

    /** An error at the place where the text is marked by a vertical bar, which is no part of it. */
    void wrong(int code, String marked) {
        int position = marked.indexOf('|');
        loads(marked.replace("|", ""), code, position);
    }

    /** Every line with a limit has a test that names it or a part of it. */
    @Override
    void end() {
        for (int promise = firstPromise; promise <= lastPromise; promise++) {
            heading("promise " + promise + ": ");
            for (String line : document.limits(promise)) {
                boolean isNamed = named.getOrDefault(promise, List.of()).stream().anyMatch(line::contains);
                equal("a test of \"" + line + "\"", true, isNamed);
            }
        }
        super.end();
    }
}
