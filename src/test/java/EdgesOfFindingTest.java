/* Promises 20 to 29: SEEN ones, NOTES and MARKS, what fits them, and what to look at next. */
public final class EdgesOfFindingTest {
    private static final Edges edges = new Edges();

    private static void seenOnes() {
        edges.sentence("20", "SEEN 0 .. 4, as they come: how many there are");
        OvenLies s = Towns.with(Towns.lies(0, 9), 0);
        edges.is("none yet", s.count(5), 0);
        for (int i = 1; i <= 5; i++) edges.is("the " + i + ". one", s.seen(0, 0, 0, 0, 18), i);
        edges.is("all of them", s.count(5), 5);

        edges.sentence("20", "FULL: 5");
        edges.is("a 6th", s.seen(0, 0, 0, 0, 17), -4);
        edges.is("it is counted", s.status(2), 1);
        edges.is("it is not among them", s.which(), 1);
        edges.full("a 6th in a full town", Towns::full, t -> t.seen(0, 0, 0, 0, 0));
        edges.full("a 6th at the other edge", Towns::full, t -> t.seen(4, 99, 9, 99, 60));
        s.forget(0);
        edges.is("behind forgetting there is room", s.seen(0, 0, 0, 0, 17), 1);
        edges.is("and they are the new ones", s.which(), 0);

        edges.sentence("20", "BAD ahead of FULL");
        edges.bad("no such OVEN", Towns::full, t -> t.seen(5, 0, 0, 0, 0));
        edges.bad("x 61", Towns::full, t -> t.seen(0, 0, 0, 0, 61));

        edges.sentence("20", "nothing else is changed, nothing may be undone by it");
        OvenLies u = Towns.some(), twin = Towns.some();
        u.seen(0, 0, 0, 0, 0);
        edges.is("that may be undone", u.count(8), twin.count(8));
        edges.is("undo", u.undo(), twin.undo());
        edges.is("it stays", u.count(5), 3);
    }

    private static void seen(String call, OvenLies s, int h, int k, int d, int x, int due) {
        s.forget(0);
        s.seen(0, h, k, d, x);
        edges.is(call, s.which(), due);
    }

    private static void whichLies() {
        edges.sentence("21", "nothing there yet");
        edges.asks("no LIES", Towns::empty, OvenLies::which, 0);
        edges.asks("none SEEN: all of one", () -> Towns.with(Towns.lies(0, 1)), OvenLies::which, 1);
        edges.is("none SEEN: all of 7", Towns.with(Towns.lies(0, 1, 0, 1, 0, 1, 0, 1, 0, 1, 0, 1, 0, 1)).which(), 127);

        edges.sentence("21", "an OVEN that had HEAT h (0 .. 99)");
        OvenLies old = Towns.with(Towns.lies(0, 9, 0, 5), 4);
        seen("0", old, 0, 0, 0, 12, 1);
        seen("99: 12 less 9", old, 99, 0, 0, 3, 1);
        seen("99: 10 less 9", old, 99, 0, 0, 1, 2);
        seen("90: 12 less 9", old, 90, 0, 0, 3, 1);
        seen("89: 12 less 8", old, 89, 0, 0, 4, 1);

        edges.sentence("21", ".. took x (0 .. 60)");
        OvenLies plain = Towns.with(Towns.lies(5, 9, 0, 1, 0, 2), 0, 5);
        seen("0 of LIES KNOWN to 9", plain, 0, 9, 0, 0, 7);
        seen("0 of one KNOWN to 1", plain, 0, 1, 0, 0, 2);
        seen("60: none takes as much", plain, 0, 0, 0, 60, 0);
        seen("44: the most by a PLAIN one", plain, 0, 0, 0, 44, 1);
        seen("one less", plain, 0, 0, 0, 43, 0);
        seen("one more", plain, 0, 0, 0, 45, 0);
        plain.forget(0);
        plain.seen(1, 0, 0, 0, 49);
        edges.is("49: the most by a WEDDING one", plain.which(), 1);

        edges.sentence("21", "what it takes above 99 is taken, too");
        seen("44 by HEAT 99", plain, 99, 0, 0, 44, 1);

        edges.sentence("21", ".. of a LIE KNOWN to k (0 .. 9)");
        OvenLies known = Towns.with(Towns.lies(4, 9, 0, 9, 3, 9), 0);
        seen("0", known, 0, 0, 0, 18, 3);
        seen("8", known, 0, 8, 0, 2, 3);
        seen("9 on DAY 6", known, 0, 9, 6, 6, 1);
        seen("9", known, 0, 9, 0, 0, 7);
        seen("1, HILL as the others", known, 0, 1, 0, 16, 7);
        seen("2, HILL lights by 0", known, 0, 2, 0, 0, 4);

        edges.sentence("21", ".. on DAY d (0 .. 99)");
        OvenLies days = Towns.with(Towns.lies(4, 9, 5, 9, 0, 9), 0);
        seen("DAY 0: COME ABOUT", days, 0, 0, 0, 44, 2);
        seen("DAY 97: CONFESSED", days, 0, 0, 97, 24, 1);
        seen("DAY 90", days, 0, 0, 90, 44, 2);
        seen("DAY 99", days, 0, 0, 99, 22, 2);
        seen("DAY 99", days, 0, 0, 99, 18, 5);

        edges.sentence("21", "by which (KIND, UNTRUTH) all SEEN are so: not by what is now");
        OvenLies later = Towns.knownTo(0, 9, 9);
        later.days(7);
        seen("KNOWN to none then", later, 0, 0, 0, 18, 1);
        later.lie(1, 7);
        edges.is("a LIE that came behind it", later.which(), 3);
        later.seen(0, 0, 1, 0, 16);
        edges.is("both", later.which(), 1);
        later.seen(0, 0, 1, 0, 15);
        edges.is("all of three", later.which(), 0);
    }

    private static void tell(String call, OvenLies s, int due) {
        edges.is(call, s.tell(0), due);
    }

    private static void tellNext() {
        edges.sentence("22", "none: no LIE");
        edges.asks("no LIES", () -> Towns.with(Towns.lies(), 0), s -> s.tell(0), -1);
        OvenLies none = Towns.with(Towns.lies(0, 9), 0);
        none.seen(0, 0, 0, 0, 17);
        tell("none fits", none, -1);
        edges.is("it is not counted", none.status(1), 0);

        edges.sentence("22", "the DAY d (0 .. 9), KNOWN to k (0 .. 2), as 10 d and k");
        tell("k 0, d 0", Towns.with(Towns.lies(0, 1, 0, 2), 0), 0);
        tell("k 1", Towns.with(Towns.lies(0, 9, 1, 7), 0), 1);
        tell("k 2", Towns.with(Towns.lies(0, 9, 0, 7), 1), 2);
        tell("k 3 alone would do", Towns.with(Towns.lies(0, 9, 0, 8), 1), 0);
        tell("d 1, k 2", Towns.with(Towns.lies(5, 7, 5, 8), 4), 12);
        tell("d 6", Towns.with(Towns.lies(0, 5, 4, 5), 0), 60);
        tell("d 6, k 2", Towns.with(Towns.lies(4, 7, 0, 7), 1), 62);
        tell("d 20 alone would do", Towns.with(Towns.lies(4, 3, 5, 6, 0, 3, 5, 1), 0), 0);

        edges.sentence("22", "of like ones the least");
        tell("one LIE alone", Towns.with(Towns.lies(3, 9), 0), 0);
        tell("two that are always alike", Towns.with(Towns.lies(0, 9, 0, 9), 0), 0);
        tell("all 7 always alike", Towns.with(Towns.lies(2, 5, 2, 5, 2, 5, 2, 5, 2, 5, 2, 5, 2, 5), 3), 0);
        tell("all 7 alike but on DAY 6", Towns.with(Towns.lies(0, 5, 0, 5, 0, 5, 0, 5, 0, 5, 0, 5, 4, 5), 0), 60);

        edges.sentence("22", "the most of these LIES: of those that fit alone");
        OvenLies fit = Towns.with(Towns.lies(0, 9, 1, 7, 0, 1), 0);
        tell("18, 18, 2", fit, 1);
        fit.seen(0, 0, 0, 0, 2);
        tell("one alone", fit, 0);

        edges.sentence("22", "its HEAT as it is");
        // OLD takes 4 and 2 at first; at HEAT 50 nothing of both, but 3 of CONFESSED on DAY 6.
        OvenLies cold = Towns.with(Towns.lies(0, 2, 4, 1), 4), warm = Towns.with(Towns.lies(0, 2, 4, 1), 4);
        tell("at 0", cold, 0);
        for (int i = 0; i < 5; i++) warm.says(warm.lie(5, 9), 0);
        edges.is("12, 23, 33, 42, 50", warm.about(0, 1), 50);
        warm.seen(0, 50, 0, 1, 0);
        edges.is("the others do not fit", warm.which(), 3);
        tell("at 50", warm, 60);
    }

    private static void notes() {
        edges.sentence("23", "NOTES 0 .. 5, as they come: how many there are");
        OvenLies s = Towns.with(Towns.lies(0, 9, 0, 9));
        edges.is("none yet", s.count(6), 0);
        for (int i = 1; i <= 6; i++) edges.is("the " + i + ". one", s.note(i % 2, 9, 0, 0, 18), i);
        edges.is("all of them", s.count(6), 6);

        edges.sentence("23", "FULL: 6");
        edges.is("a 7th", s.note(0, 9, 0, 0, 17), -4);
        edges.is("it is counted", s.status(2), 1);
        edges.is("it is not among them", s.is(0), 17);
        edges.full("a 7th in a full town", Towns::full, t -> t.note(0, 1, 0, 0, 0));
        edges.full("a 7th at the other edge", Towns::full, t -> t.note(6, 9, 9, 99, 60));
        s.forget(1);
        edges.is("behind forgetting there is room", s.note(0, 9, 0, 0, 9), 1);
        edges.is("and they are the new ones", s.is(0), 4);

        edges.sentence("23", "BAD ahead of FULL");
        edges.bad("no such LIE", Towns::full, t -> t.note(7, 1, 0, 0, 0));
        edges.bad("UNTRUTH 0", Towns::full, t -> t.note(0, 0, 0, 0, 0));

        edges.sentence("23", "nothing may be undone by it");
        OvenLies u = Towns.some();
        int before = u.count(8);
        u.note(0, 1, 0, 0, 0);
        edges.is("that may be undone", u.count(8), before);
    }

    private static void marks() {
        edges.sentence("24", "MARKS 0 .. 5, as they come: how many there are");
        OvenLies s = Towns.with(Towns.lies(), 0, 0);
        edges.is("none yet", s.count(7), 0);
        for (int i = 1; i <= 6; i++) edges.is("the " + i + ". one", s.mark(i % 2, 0, 60, 60), i);
        edges.is("all of them", s.count(7), 6);

        edges.sentence("24", "FULL: 6");
        edges.is("a 7th", s.mark(0, 0, 60, 59), -4);
        edges.is("it is counted", s.status(2), 1);
        edges.is("it is not among them", s.kinds(0), 1);
        edges.full("a 7th in a full town", Towns::full, t -> t.mark(0, 0, 0, 0));
        edges.full("a 7th at the other edge", Towns::full, t -> t.mark(4, 99, 60, 60));
        s.forget(2);
        edges.is("behind forgetting there is room", s.mark(0, 0, 60, 30), 1);
        edges.is("and they are the new ones", s.kinds(0), 4);

        edges.sentence("24", "BAD ahead of FULL");
        edges.bad("no such OVEN", Towns::full, t -> t.mark(5, 0, 0, 0));
        edges.bad("y 61", Towns::full, t -> t.mark(0, 0, 0, 61));

        edges.sentence("24", "nothing may be undone by it");
        OvenLies u = Towns.some();
        int before = u.count(8);
        u.mark(0, 0, 0, 0);
        edges.is("that may be undone", u.count(8), before);
    }

    private static void forgotten() {
        edges.sentence("25", "No SEEN ones (0), NOTES (1), MARKS (2): how many there were");
        int[] most = {5, 6, 6};
        for (int what = 0; what <= 2; what++) {
            edges.is("what " + what + " of none", new OvenLies().forget(what), 0);
            OvenLies s = Towns.full();
            edges.is("what " + what + " of all", s.forget(what), most[what]);
            edges.is("what " + what + " then", s.forget(what), 0);
            edges.is("that may be undone", s.count(8), 8);
            for (int other = 0; other <= 2; other++) {
                edges.is("what " + what + ", of " + other, s.count(5 + other), other == what ? 0 : most[other]);
            }
        }
        edges.is("of some", Towns.some().forget(1), 2);

        edges.sentence("25", "BAD");
        edges.bad("3", Towns::full, s -> s.forget(3));
        edges.bad("-1", Towns::full, s -> s.forget(-1));
    }

    private static int is(int u, int k, int d, int x) {
        OvenLies s = Towns.with(Towns.lies(0, 9));
        s.note(0, u, k, d, x);
        return s.is(0);
    }

    private static void kindsOfLies() {
        edges.sentence("26", "nothing there yet: all KINDS");
        edges.asks("no NOTES", () -> Towns.with(Towns.lies(3, 9)), s -> s.is(0), 63);
        OvenLies two = Towns.with(Towns.lies(0, 9, 0, 9));
        two.note(1, 9, 0, 0, 9);
        edges.is("NOTES of another LIE", two.is(0), 63);

        edges.sentence("26", "a LIE of UNTRUTH u (1 .. 9)");
        edges.is("1", is(1, 0, 0, 2), 17);
        edges.is("9", is(9, 0, 0, 18), 17);
        edges.sentence("26", ".. KNOWN to k (0 .. 9)");
        edges.is("0", is(9, 0, 1, 22), 42);
        edges.is("1", is(9, 1, 1, 16), 59);
        edges.is("2", is(9, 2, 1, 14), 51);
        edges.is("9, CONFESSED alone", is(9, 9, 6, 6), 16);
        edges.is("9, the others", is(9, 9, 6, 0), 47);
        edges.sentence("26", ".. on DAY d (0 .. 99)");
        edges.is("0", is(9, 0, 0, 44), 32);
        edges.is("97", is(9, 0, 97, 24), 16);
        edges.is("99", is(9, 0, 99, 22), 42);
        edges.sentence("26", ".. LIT by x (0 .. 60)");
        edges.is("0", is(1, 1, 0, 0), 63);
        edges.is("60", is(9, 0, 0, 60), 0);
        edges.sentence("26", "all NOTES of one are so: all 6");
        OvenLies s = Towns.with(Towns.lies(0, 9));
        for (int i = 0; i < 5; i++) s.note(0, 9, 9, 0, 0);
        edges.is("five", s.is(0), 63);
        s.note(0, 9, 2, 1, 14);
        edges.is("the last one, too", s.is(0), 51);
        OvenLies first = Towns.with(Towns.lies(0, 9));
        first.note(0, 9, 2, 1, 14);
        for (int i = 0; i < 5; i++) first.note(0, 9, 9, 0, 0);
        edges.is("the first one, too", first.is(0), 51);
    }

    private static int look(int u, int... notes) {
        OvenLies s = Towns.with(Towns.lies(0, u), 0);
        for (int i = 0; i + 3 < notes.length; i += 4) s.note(0, notes[i], notes[i + 1], notes[i + 2], notes[i + 3]);
        return s.look(0);
    }

    private static void lookNext() {
        edges.sentence("27", "none: no KIND");
        edges.is("NOTES that no KIND fits", look(9, 1, 0, 0, 60), -1);
        edges.is("two that no KIND fits", look(9, 9, 0, 1, 22, 9, 0, 1, 18), -1);
        edges.sentence("27", "100 k and d (k 0 .. 3, d 0 .. 20)");
        edges.is("no NOTES: 18, 22, 9, 22, 18, 44", look(9), 0);
        edges.is("PLAIN, CONFESSED: on DAY 6", look(9, 9, 0, 0, 18), 6);
        edges.is("PLAIN, FIB, CONFESSED, COME ABOUT: on DAY 20 alone", look(9, 9, 2, 1, 14), 20);
        edges.is("FIB, HILL: KNOWN to 2", look(9, 9, 0, 1, 22, 9, 0, 0, 22), 200);
        edges.is("FIB, HILL of UNTRUTH 3: KNOWN to 2", look(3, 9, 0, 1, 22, 9, 0, 0, 22), 200);
        edges.sentence("27", "of like ones the least");
        edges.is("one KIND alone", look(9, 9, 0, 0, 44), 0);
        edges.is("FIB, HILL of UNTRUTH 1, 2: never apart", look(1, 9, 0, 1, 22, 9, 0, 0, 22), 0);
        edges.is("FIB, HILL of UNTRUTH 1, 2: never apart", look(2, 9, 0, 1, 22, 9, 0, 0, 22), 0);
        edges.sentence("27", "its UNTRUTH as it is, not as NOTES tell");
        edges.is("NOTES of 9, it is 3", look(3, 9, 0, 1, 22, 9, 0, 0, 22), 200);
        edges.is("NOTES of 1, it is 9", look(9, 1, 0, 1, 6, 1, 0, 0, 6), 200);
    }

    private static void kindsOfOvens() {
        edges.sentence("28", "nothing there yet: all KINDS");
        edges.asks("no MARKS", () -> Towns.with(Towns.lies(), 3), s -> s.kinds(0), 63);
        OvenLies two = Towns.with(Towns.lies(), 0, 0);
        two.mark(1, 0, 60, 0);
        edges.is("MARKS of another OVEN", two.kinds(0), 63);
        edges.is("of that one", two.kinds(1), 0);
        edges.sentence("28", "all MARKS of one are so: all 6");
        OvenLies s = Towns.with(Towns.lies(), 0);
        for (int i = 0; i < 5; i++) s.mark(0, 0, 0, 0);
        edges.is("five", s.kinds(0), 63);
        s.mark(0, 99, 60, 60);
        edges.is("the last one, too", s.kinds(0), 1);
        OvenLies first = Towns.with(Towns.lies(), 0);
        first.mark(0, 99, 60, 60);
        for (int i = 0; i < 5; i++) first.mark(0, 0, 0, 0);
        edges.is("the first one, too", first.kinds(0), 1);
        edges.sentence("28", "by its MARKS' HEAT, not by its own");
        OvenLies warm = Towns.ofHeat(99);
        warm.mark(0, 0, 60, 12);
        edges.is("CLAY, OLD", warm.kinds(0), 18);
    }

    private static int ask(int h, int... marks) {
        OvenLies s = Towns.ofHeat(h);
        for (int i = 0; i + 2 < marks.length; i += 3) s.mark(0, marks[i], marks[i + 1], marks[i + 2]);
        return s.ask(0);
    }

    private static void askNext() {
        edges.sentence("29", "none: no KIND");
        edges.is("a MARK that no KIND fits", ask(0, 0, 60, 0), -1);
        edges.is("two that no KIND fits", ask(0, 0, 60, 60, 0, 60, 12), -1);
        edges.sentence("29", "how it LIGHTS x (0 .. 60) by which the most are fewest");
        edges.is("no MARKS, HEAT 0", ask(0), 13);
        edges.is("no MARKS, HEAT 20", ask(20), 14);
        edges.is("PLAIN, CLAY: 13", ask(0, 99, 9, 9, 99, 10, 10), 13);
        edges.is("CLAY, SMALL: 1", ask(0, 10, 24, 12), 1);
        edges.is("SMALL, OLD, HEAT 20: 2", ask(20, 10, 1, 0), 2);
        edges.is("SMALL, OLD, HEAT 10: 3", ask(10, 10, 1, 0), 3);
        edges.sentence("29", "of like ones the least");
        edges.is("one KIND alone", ask(50, 99, 60, 60), 0);
        edges.is("CLAY, OLD below HEAT 10: never apart", ask(9, 0, 13, 12), 0);
        edges.sentence("29", "its HEAT as it is, not as MARKS tell");
        edges.is("CLAY, OLD of HEAT 10: 1", ask(10, 0, 13, 12), 1);
        edges.is("CLAY, OLD of HEAT 99: 1", ask(99, 0, 13, 12), 1);
    }

    public static void main(String[] args) {
        seenOnes();
        whichLies();
        tellNext();
        notes();
        marks();
        forgotten();
        kindsOfLies();
        lookNext();
        kindsOfOvens();
        askNext();
        edges.end();
    }
}
