import java.util.ArrayList;
import java.util.List;
import java.util.function.Supplier;
import java.util.function.ToLongFunction;

/* Tests sentence by sentence: each one of the document that names a boundary case has answers of its own. */
final class Edges {
    /* By which STATUS a refused call counts. */
    static final int BAD = 0, NO = 1, FULL = 2, UNCOUNTED = -1;

    private final Due due = new Due();
    private String told = "";
    private int sentences = 0;
    private int answers = 0;

    void sentence(String promise, String words) {
        noneWithoutAnswers();
        told = promise + " \"" + words + "\"";
        sentences++;
        answers = 0;
    }

    void is(String call, long got, long want) {
        answers++;
        due.is(told + ": " + call, got, want);
    }

    /* The call answers so, STATUS counts it (or not), and nothing else is changed by it. */
    void refused(String call, Supplier<OvenLies> maker, ToLongFunction<OvenLies> asked, long answer, int reason) {
        OvenLies s = maker.get();
        OvenLies twin = maker.get();
        is(call, asked.applyAsLong(s), answer);
        for (int i = 0; i < 3; i++) {
            is(call + ", STATUS " + i, s.status(i), twin.status(i) + (i == reason ? 1 : 0));
        }
        is(call + " changes nothing else", firstOther(everythingOf(s), everythingOf(twin)), -1);
    }

    void bad(String call, Supplier<OvenLies> maker, ToLongFunction<OvenLies> asked) {
        refused(call, maker, asked, OvenLies.BAD, BAD);
    }

    void no(String call, Supplier<OvenLies> maker, ToLongFunction<OvenLies> asked) {
        refused(call, maker, asked, OvenLies.NO, NO);
    }

    void full(String call, Supplier<OvenLies> maker, ToLongFunction<OvenLies> asked) {
        refused(call, maker, asked, OvenLies.FULL, FULL);
    }

    /* A question: it answers so and changes nothing, STATUS neither. */
    void asks(String call, Supplier<OvenLies> maker, ToLongFunction<OvenLies> asked, long answer) {
        refused(call, maker, asked, answer, UNCOUNTED);
    }

    /* All that can be told of an object, IMAGES, THE TEXT and what may be undone too; it is used up by that. */
    static List<Long> everythingOf(OvenLies s) {
        List<Long> all = new ArrayList<>();
        all.add(s.part(0));
        all.add(s.part(1));
        pastOf(s, all);
        for (int i = 0; i < 2; i++) {
            all.add((long) s.from(i));
            pastOf(s, all);
        }
        all.add((long) s.read());
        pastOf(s, all);
        return all;
    }

    private static void pastOf(OvenLies s, List<Long> all) {
        all.add(s.digest());
        for (int i = 0; i < 9; i++) {
            all.add((long) s.undo());
            all.add(s.digest());
        }
    }

    private static int firstOther(List<Long> left, List<Long> right) {
        for (int i = 0; i < left.size(); i++) if (!left.get(i).equals(right.get(i))) return i;
        return left.size() == right.size() ? -1 : -2;
    }

    private void noneWithoutAnswers() {
        if (sentences > 0 && answers == 0) due.is(told + " has answers", 0, 1);
    }

    void end() {
        noneWithoutAnswers();
        System.out.println(sentences + " sentences");
        due.end();
    }
}
