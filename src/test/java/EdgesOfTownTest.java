/* Promises 1 to 6: a new object, the town, LIES and OVENS as they come, THE TEXT's bytes; what is left of others. */
public final class EdgesOfTownTest {
    private static final Edges edges = new Edges();

    private static void aNewObject() {
        edges.sentence("1", "nothing is there");
        for (int what = 0; what <= 9; what++) {
            int asked = what;
            edges.asks("count " + what, Towns::empty, s -> s.count(asked), 0);
        }
        edges.asks("which", Towns::empty, OvenLies::which, 0);
        edges.asks("round(-2)", Towns::empty, s -> s.round(-2), 0);
        edges.asks("round(-1)", Towns::empty, s -> s.round(-1), 0);
        edges.asks("the TEXT ends at once", Towns::empty, OvenLies::read, -10);
        edges.asks("town", Towns::empty, OvenLies::town, 0);
        edges.asks("clear", Towns::empty, OvenLies::clear, 0);
        edges.asks("years", Towns::empty, s -> s.years(5, 60), 0);

        edges.sentence("1", "nothing was refused");
        for (int i = 0; i < 3; i++) edges.is("STATUS " + i, new OvenLies().status(i), 0);

        edges.sentence("Terms", "THE FRACTION is 0 by 1 at first");
        edges.asks("above", Towns::empty, s -> s.part(0), 0);
        edges.asks("below", Towns::empty, s -> s.part(1), 1);

        edges.sentence("1", "nothing may be undone, no IMAGE was kept");
        edges.no("undo", Towns::empty, OvenLies::undo);
        edges.no("from 0", Towns::empty, s -> s.from(0));
        edges.no("from 1", Towns::empty, s -> s.from(1));

        edges.sentence("1", "objects are apart");
        OvenLies s = new OvenLies(), t = new OvenLies();
        s.lie(0, 5);
        s.image(0);
        s.type(65);
        s.undo();
        edges.is("LIES of the other", t.count(0), 0);
        edges.is("IMAGE of the other", t.from(0), -3);
        edges.is("TEXT of the other", t.count(9), 0);
        edges.is("STATUS of the other", t.status(1), 1);
    }

    private static void howManyThereWere() {
        edges.sentence("2", "how many LIES there were");
        edges.is("none", new OvenLies().town(), 0);
        edges.is("one", Towns.with(Towns.lies(0, 1)).town(), 1);
        edges.is("OVENS are none", Towns.with(Towns.lies(), 0, 0, 0).town(), 0);
        OvenLies s = Towns.full();
        edges.is("all 7", s.town(), 7);
        edges.is("then none", s.town(), 0);
    }

    private static void allAsAtFirst() {
        edges.sentence("2", "all as at first");
        OvenLies s = Towns.full();
        s.days(3);
        s.town();
        String[] names = {"LIES", "OVENS", "HOT", "the DAY", "HEAT", "SEEN", "NOTES", "MARKS", "that may be undone"};
        for (int what = 0; what <= 8; what++) edges.is(names[what], s.count(what), 0);
        edges.is("undo", s.undo(), -3);
        edges.is("no LIE", s.of(0, 0), -2);
        edges.is("no OVEN", s.about(0, 0), -2);
        edges.is("LIES begin at 0", s.lie(2, 3), 0);
        edges.is("OVENS begin at 0", s.oven(2), 0);
        edges.is("KNOWN to none", s.of(0, 2), 0);
        edges.is("HEAT 0", s.about(0, 1), 0);
        edges.is("the KIND is the new one", s.of(0, 0) * 10 + s.about(0, 0), 22);
        edges.is("no SEEN one is left over", s.seen(0, 0, 0, 0, 0), 1);
        edges.is("no NOTE is left over", s.note(0, 1, 0, 0, 0), 1);
        edges.is("no MARK is left over", s.mark(0, 0, 0, 0), 1);
    }

    /* One PLAIN LIE of UNTRUTH 5, one PLAIN OVEN of HEAT 0; 7 strong LIES and 5 hot OVENS were there ahead of them. */
    private static void oneEachAlone(String call, OvenLies s) {
        edges.is(call + ": LIES and OVENS", s.count(0) * 10 + s.count(1), 11);
        edges.is(call + ": HEAT of all", s.count(4), 0);
        edges.is(call + ": no LIE keeps it HOT", s.keep(0, 1), -1);
        edges.is(call + ": 10, 8 and 6", s.few(0, -1), 3);
        for (int k = 0; k < 3; k++) edges.is(call + ": LIE 0 each time", s.few(0, k), 0);
        edges.is(call + ": none is HOT by one SAYING into each", s.round(-2), 0);
        edges.is(call + ": HEAT by one SAYING into each", s.round(-1), 10);
        edges.is(call + ": LIE 0 it is", s.round(0), 0);
        edges.is(call + ": one LIE fits", s.which(), 1);
        edges.is(call + ": it rests by itself", s.arch(0, -1), 1);
        edges.is(call + ": bits of LIE 1", s.trues(0, 2, 0), -2);
        for (int seed = 0; seed < 20; seed++) edges.is(call + ": by SEED " + seed, s.years(seed, 5), 0);
        edges.is(call + ": none is HOT behind a DAY", s.days(1), 0);
    }

    private static OvenLies strongOnes(OvenLies s) {
        while (s.lie(5, 9) >= 0) edges.is("a strong LIE", s.of(0, 3) > 0 ? 1 : 0, 1);
        while (s.oven(0) >= 0) edges.is("a PLAIN OVEN", s.about(0, 0), 0);
        for (int i = 0; i < 20; i++) s.says(2 + i % 5, i % 5);
        for (int l = 0; l < 7; l++) s.forgets(l);
        edges.is("all are HOT", s.count(2), 5);
        return s;
    }

    private static void noneOfThoseThatWere() {
        edges.sentence("2", "all as at first: LIES and OVENS that were there are none any more");
        OvenLies s = strongOnes(new OvenLies());
        s.town();
        s.lie(0, 5);
        s.oven(0);
        oneEachAlone("behind town", s);

        edges.sentence("7", "a TOWN that is read takes the place of all: LIES and OVENS that were there are none of it");
        OvenLies t = strongOnes(new OvenLies());
        t.years(1, 60);
        Towns.type(t, "town;lie 0 5;oven 0;");
        edges.is("read", t.read(), 3);
        oneEachAlone("behind read", t);

        edges.sentence("35", "it goes on from an IMAGE: LIES and OVENS that came behind it are none of it");
        OvenLies u = Towns.with(Towns.lies(0, 5), 0);
        u.image(1);
        strongOnes(u);
        u.from(1);
        oneEachAlone("behind from", u);
    }

    private static void butForThese() {
        edges.sentence("2", "but for IMAGES, THE TEXT, THE FRACTION, STATUS");
        OvenLies s = Towns.full();
        OvenLies twin = Towns.full();
        s.undo();
        s.lie(9, 9);
        s.lie(0, 1);
        twin.undo();
        s.town();
        edges.is("THE TEXT", s.count(9), 150);
        edges.is("above", s.part(0), twin.part(0));
        edges.is("below", s.part(1), twin.part(1));
        edges.is("below is another than at first", s.part(1) == 1 ? 1 : 0, 0);
        edges.is("BAD", s.status(0), 1);
        edges.is("NO", s.status(1), 0);
        edges.is("FULL", s.status(2), twin.status(2) + 1);
        edges.is("IMAGE 0", s.from(0), 1);
        twin.from(0);
        edges.is("as it was kept", s.digest(), twin.digest());
        s.town();
        edges.is("IMAGE 1", s.from(1), 1);
        twin.from(1);
        edges.is("as it was kept", s.digest(), twin.digest());
        edges.is("THE TEXT can be read", s.read(), 8);
    }

    private static void liesAsTheyCome() {
        edges.sentence("3", "A LIE: its number");
        OvenLies s = new OvenLies();
        for (int i = 0; i < 7; i++) edges.is("LIE " + i, s.lie(i % 6, i + 2), i);
        for (int i = 0; i < 7; i++) {
            edges.is("KIND of " + i, s.of(i, 0), i % 6);
            edges.is("UNTRUTH of " + i, s.of(i, 1), i + 2);
        }
        edges.is("LIES", s.count(0), 7);
        edges.is("a LIE 7 is none", s.of(7, 0), -2);

        edges.sentence("3", "FULL: 7");
        edges.full("an 8th", Towns::full, t -> t.lie(0, 1));
        edges.full("an 8th of the last KIND", Towns::full, t -> t.lie(5, 9));
        OvenLies six = Towns.with(Towns.lies(0, 1, 0, 1, 0, 1, 0, 1, 0, 1, 0, 1));
        edges.is("the 7th is none too many", six.lie(0, 1), 6);
        edges.is("nothing was refused", six.status(2), 0);
        edges.is("the 8th is", six.lie(0, 1), -4);
        edges.is("it is counted", six.status(2), 1);

        edges.sentence("3", "BAD ahead of FULL");
        edges.bad("KIND 6, an 8th", Towns::full, t -> t.lie(6, 9));
        edges.bad("UNTRUTH 0, an 8th", Towns::full, t -> t.lie(0, 0));

        edges.sentence("Terms", "KNOWN to 0 .. 9 (0 at first)");
        OvenLies known = Towns.knownTo(0, 9, 4);
        known.lie(0, 9);
        edges.is("a new LIE", known.of(1, 2), 0);
        edges.is("the other one", known.of(0, 2), 4);
        known.image(0);
        known.town();
        known.lie(0, 9);
        known.lie(0, 9);
        edges.is("where one was KNOWN", known.of(0, 2), 0);
    }

    private static void ovensAsTheyCome() {
        edges.sentence("4", "An OVEN: its number");
        OvenLies s = new OvenLies();
        for (int i = 0; i < 5; i++) edges.is("OVEN " + i, s.oven(5 - i), i);
        for (int i = 0; i < 5; i++) edges.is("KIND of " + i, s.about(i, 0), 5 - i);
        edges.is("OVENS", s.count(1), 5);
        edges.is("an OVEN 5 is none", s.about(5, 0), -2);

        edges.sentence("4", "FULL: 5");
        edges.full("a 6th", Towns::full, t -> t.oven(0));
        edges.full("a 6th of the last KIND", Towns::full, t -> t.oven(5));
        OvenLies four = Towns.with(Towns.lies(), 0, 0, 0, 0);
        edges.is("the 5th is none too many", four.oven(0), 4);
        edges.is("nothing was refused", four.status(2), 0);
        edges.is("the 6th is", four.oven(0), -4);
        edges.is("it is counted", four.status(2), 1);

        edges.sentence("4", "BAD ahead of FULL");
        edges.bad("KIND 6, a 6th", Towns::full, t -> t.oven(6));
        edges.bad("KIND -1, a 6th", Towns::full, t -> t.oven(-1));

        edges.sentence("Terms", "HEAT (0 .. 99; 0 at first)");
        OvenLies hot = Towns.ofHeat(50);
        hot.oven(0);
        edges.is("a new OVEN", hot.about(1, 1), 0);
        edges.is("the other one", hot.about(0, 1), 50);
        hot.town();
        hot.oven(0);
        edges.is("where one was hot", hot.about(0, 1), 0);
    }

    private static void bytesOfTheText() {
        edges.sentence("5", "A byte (0 .. 127) comes behind THE TEXT: how many it has");
        OvenLies s = new OvenLies();
        edges.is("byte 0", s.type(0), 1);
        edges.is("byte 127", s.type(127), 2);
        edges.is("bytes", s.count(9), 2);
        edges.is("behind it, not ahead: byte 0 is the fault", s.read(), -10);
        OvenLies word = Towns.typed("town");
        edges.is("behind it", word.type(';'), 5);
        edges.is("a word to be read", word.read(), 1);

        edges.sentence("5", "FULL (150 bytes at most)");
        OvenLies most = new OvenLies();
        for (int i = 1; i <= 150; i++) edges.is("byte " + i, most.type(i % 128), i);
        edges.is("nothing was refused", most.status(2), 0);
        edges.is("a 151st", most.type(32), -4);
        edges.is("bytes", most.count(9), 150);
        edges.is("it is counted", most.status(2), 1);
        edges.full("a 151st in a full town", Towns::full, t -> t.type(0));
        edges.full("a 151st in a full town", Towns::full, t -> t.type(127));

        edges.sentence("5", "BAD ahead of FULL");
        edges.bad("byte 128", Towns::full, t -> t.type(128));
        edges.bad("byte -1", Towns::full, t -> t.type(-1));

        edges.sentence("5", "a number beyond a byte is none that wraps around");
        for (int c : new int[] {256, 256 + 't', 65536 + 't', -256 + 't', 1 << 31}) {
            edges.bad("byte " + c, Towns::some, t -> t.type(c));
        }

        edges.sentence("5", "a byte leaves all else as it is");
        OvenLies some = Towns.some(), twin = Towns.some();
        some.type(';');
        some.undo();
        twin.undo();
        edges.is("HEAT, KNOWN, DAY", some.count(4) * 10 + some.count(3), twin.count(4) * 10 + twin.count(3));
        edges.is("bytes", some.count(9), twin.count(9) + 1);
    }

    private static void noText() {
        edges.sentence("6", "THE TEXT is empty: how many it had");
        OvenLies s = new OvenLies();
        edges.is("none", s.clear(), 0);
        s.type(65);
        edges.is("one", s.clear(), 1);
        edges.is("then none", s.clear(), 0);
        edges.is("bytes", s.count(9), 0);
        edges.is("the first byte again", s.type(66), 1);
        OvenLies full = Towns.full();
        edges.is("all 150", full.clear(), 150);
        edges.is("there is room again", full.type(59), 1);
        edges.is("what was there is gone", full.read(), -10);
        OvenLies half = Towns.typed("town;lie 0 1;");
        half.clear();
        Towns.type(half, "town;");
        edges.is("no byte is left over", half.read(), 1);
        edges.is("no LIE", half.count(0), 0);

        edges.sentence("6", "it leaves all else as it is");
        OvenLies some = Towns.some();
        long before = some.count(4) * 1000 + some.count(3) * 100 + some.count(5) * 10 + some.count(8);
        some.clear();
        edges.is("counts", some.count(4) * 1000 + some.count(3) * 100 + some.count(5) * 10 + some.count(8), before);
        edges.is("an IMAGE", some.from(0), 1);
    }

    private static void behindThese() {
        edges.sentence("11", "behind a LIE that comes none may be undone");
        OvenLies s = Towns.some();
        s.lie(0, 1);
        edges.is("that may be", s.count(8), 0);
        edges.is("undo", s.undo(), -3);
        OvenLies refused = Towns.full();
        refused.lie(0, 1);
        edges.is("but behind a refused one as many as before", refused.count(8), 8);
        edges.is("of them the last", refused.undo(), 0);

        edges.sentence("11", "behind an OVEN that comes none may be undone");
        OvenLies t = Towns.some();
        t.oven(0);
        edges.is("that may be", t.count(8), 0);
        edges.is("undo", t.undo(), -3);
        OvenLies full = Towns.full();
        full.oven(0);
        full.oven(6);
        edges.is("but behind refused ones as many as before", full.count(8), 8);
        OvenLies later = Towns.some();
        later.oven(0);
        later.says(0, 3);
        edges.is("what is said behind it may be", later.undo(), 2);
        edges.is("no more than that", later.undo(), -3);
    }

    public static void main(String[] args) {
        aNewObject();
        howManyThereWere();
        allAsAtFirst();
        noneOfThoseThatWere();
        butForThese();
        liesAsTheyCome();
        ovensAsTheyCome();
        bytesOfTheText();
        noText();
        behindThese();
        edges.end();
    }
}
