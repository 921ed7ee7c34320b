import java.util.List;
import java.util.function.Function;
import java.util.function.Predicate;
import java.util.function.Supplier;
import java.util.function.ToLongFunction;

/** Tests of sentences that name an edge. A year is made anew for each question, so that none has more than 512 calls. */
final class Edge {
    private static final int NONE = CottageYear.NONE;
    private final Check check;
    private String sentence = "";

    Edge(String name) {
        check = new Check(name);
    }

    void end() {
        check.end();
    }

    /** The promise and the words of the document that the checks behind it are about. */
    void sentence(String words) {
        sentence = words;
    }

    void due(String what, long got, long want) {
        check.due("[" + sentence + "] " + what, got, want);
    }

    void due(String what, boolean got, boolean want) {
        check.due("[" + sentence + "] " + what, got, want);
    }

    /** A call is refused with an answer, and all that can be seen is as if it had not been made. */
    void refused(String why, Supplier<CottageYear> made, ToLongFunction<CottageYear> call, long answer) {
        due(why, call.applyAsLong(made.get()), answer);
        for (Function<CottageYear, List<String>> look : Seen.looks()) {
            CottageYear asked = made.get();
            call.applyAsLong(asked);
            List<String> got = look.apply(asked);
            List<String> want = look.apply(made.get());
            due(why + ": what stands then" + difference(got, want), got.equals(want), true);
        }
    }

    void none(String why, Supplier<CottageYear> made, ToLongFunction<CottageYear> call) {
        refused(why, made, call, NONE);
    }

    void isFalse(String why, Supplier<CottageYear> made, Predicate<CottageYear> call) {
        refused(why, made, year -> call.test(year) ? 1 : 0, 0);
    }

    private static String difference(List<String> got, List<String> want) {
        for (int i = 0; i < got.size() && i < want.size(); i++) {
            if (!got.get(i).equals(want.get(i))) {
                return " (" + got.get(i) + " and not " + want.get(i) + ")";
            }
        }
        return "";
    }
}
