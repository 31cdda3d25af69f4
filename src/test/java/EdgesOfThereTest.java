/* Promises 33 to 38: THE FRACTION, IMAGES, STATUS, how many there are, the digest; and the 512 calls of an object. */
public final class EdgesOfThereTest {
    private static final int MAX = Integer.MAX_VALUE, MIN = Integer.MIN_VALUE;

    private static final Edges edges = new Edges();

    private static void parts() {
        edges.sentence("33", "THE FRACTION: above (0), below (1)");
        edges.asks("above of a new one", Towns::empty, s -> s.part(0), 0);
        edges.asks("below of a new one", Towns::empty, s -> s.part(1), 1);
        // HEAT 26 of OVEN 0: HOT by none of LIES 0 and 1; OVEN 2 is OLD: 12 and 11, both needed: 49 of 100.
        OvenLies s = Towns.some();
        edges.is("above: HOT already", s.part(0) * 10 + s.part(1), 11);
        s.trues(2, 3, 3);
        edges.is("above", s.part(0), 49);
        edges.is("below", s.part(1), 100);
        edges.sentence("33", "BAD");
        edges.bad("2", Towns::full, t -> t.part(2));
        edges.bad("-1", Towns::full, t -> t.part(-1));
        edges.bad("MIN", Towns::empty, t -> t.part(MIN));
        edges.bad("MAX", Towns::empty, t -> t.part(MAX));
    }

    private static void imagesAreKept() {
        edges.sentence("34", "An IMAGE is kept: 1 (IMAGES 0, 1)");
        OvenLies s = Towns.some();
        edges.is("0", s.image(0), 1);
        edges.is("1", s.image(1), 1);
        edges.is("of an empty town", new OvenLies().image(0), 1);
        edges.bad("2", Towns::full, t -> t.image(2));
        edges.bad("-1", Towns::full, t -> t.image(-1));

        edges.sentence("34", "it leaves all as it is");
        OvenLies same = Towns.some(), twin = Towns.some();
        same.image(1);
        edges.is("digest", same.digest(), twin.digest());
        edges.is("undo", same.undo(), twin.undo());
        edges.is("the other IMAGE", same.from(0), twin.from(0));
        edges.is("digest", same.digest(), twin.digest());

        edges.sentence("34", "another one takes its place");
        OvenLies again = Towns.with(Towns.lies(0, 9), 0);
        again.image(0);
        again.says(0, 0);
        again.image(1);
        again.says(0, 0);
        again.image(0);
        again.town();
        again.from(0);
        edges.is("HEAT of the new 0", again.about(0, 1), 34);
        again.from(1);
        edges.is("HEAT of 1", again.about(0, 1), 18);
        again.town();
        again.image(1);
        again.from(0);
        again.from(1);
        edges.is("LIES of the new 1", again.count(0), 0);
    }

    private static void goesOnFromOne() {
        edges.sentence("35", "NO: none was kept");
        edges.no("0 of a new one", Towns::empty, s -> s.from(0));
        edges.no("1 of a new one", Towns::empty, s -> s.from(1));
        edges.no("1 where 0 was kept", Towns::some, s -> s.from(1));
        OvenLies first = new OvenLies();
        first.image(1);
        edges.is("0 where 1 was kept", first.from(0), -3);
        edges.is("1 where 1 was kept, of an empty town", first.from(1), 1);
        edges.sentence("35", "BAD ahead of NO");
        edges.bad("2 of a new one", Towns::empty, s -> s.from(2));
        edges.bad("-1 of a new one", Towns::empty, s -> s.from(-1));

        edges.sentence("35", "It goes on from an IMAGE: 1");
        OvenLies s = Towns.with(Towns.lies(5, 9, 0, 9), 0, 5);
        s.says(0, 0);
        s.days(3);
        s.says(1, 1);
        s.seen(1, 2, 3, 4, 5);
        s.note(1, 2, 3, 4, 5);
        s.mark(1, 2, 3, 4);
        s.image(0);
        long kept = s.digest();
        s.town();
        edges.is("behind town", s.from(0), 1);
        edges.is("all as it was", s.digest(), kept);
        s.lie(3, 3);
        s.oven(3);
        s.days(60);
        s.forget(0);
        s.forget(1);
        s.forget(2);
        edges.is("once more", s.from(0), 1);
        edges.is("all as it was", s.digest(), kept);
        edges.is("KIND and UNTRUTH of what was not there", s.of(2, 0), -2);
        edges.is("it goes on: a LIE", s.lie(3, 4), 2);
        edges.is("its UNTRUTH", s.of(2, 1), 4);
        edges.is("its KNOWN", s.of(2, 2), 0);

        edges.sentence("35", "SEEN ones, NOTES, MARKS as they were kept, also where as many others came");
        OvenLies rows = Towns.with(Towns.lies(0, 9, 1, 9), 0, 0);
        rows.seen(0, 0, 0, 0, 18);
        rows.note(0, 9, 0, 0, 22);
        rows.mark(0, 0, 13, 13);
        rows.image(1);
        for (int what = 0; what <= 2; what++) rows.forget(what);
        rows.seen(0, 0, 0, 0, 22);
        rows.note(1, 9, 0, 0, 44);
        rows.mark(1, 0, 13, 12);
        rows.from(1);
        edges.is("SEEN", rows.which(), 1);
        edges.is("NOTES of 0", rows.is(0), 10);
        edges.is("NOTES of 1", rows.is(1), 63);
        edges.is("MARKS of 0", rows.kinds(0), 1);
        edges.is("MARKS of 1", rows.kinds(1), 63);
        rows.forget(0);
        rows.seen(0, 0, 0, 0, 22);
        rows.from(1);
        edges.is("SEEN once more", rows.which(), 1);

        edges.sentence("35", "what may be undone they keep");
        s.from(0);
        int[] days = {3, 0, 0};
        int[] heats = {23, 44, 0};
        for (int i = 0; i < 3; i++) {
            edges.is("the DAY", s.undo(), days[i]);
            edges.is("HEAT of OVEN 0", s.about(0, 1), heats[i]);
        }
        edges.is("no more", s.undo(), -3);
        edges.is("the IMAGE keeps them for the next time", s.from(0), 1);
        edges.is("all of them", s.count(8), 3);
        edges.is("digest", s.digest(), kept);
        OvenLies none = Towns.with(Towns.lies(0, 9), 0);
        none.image(0);
        none.days(1);
        none.from(0);
        edges.is("an IMAGE of none", none.undo(), -3);
        OvenLies full = Towns.full();
        full.image(1);
        full.town();
        full.from(1);
        edges.is("8 of them", full.count(8), 8);

        edges.sentence("Terms", "IMAGES keep all but them, THE TEXT, THE FRACTION and STATUS");
        OvenLies t = Towns.with(Towns.lies(0, 9), 0);
        t.image(0);
        t.image(1);
        t.type(65);
        t.trues(0, 1, 5);
        t.trues(0, 0, 11);
        t.undo();
        t.oven(0);
        t.image(1);
        t.from(0);
        edges.is("THE TEXT", t.count(9), 1);
        edges.is("above", t.part(0), 0);
        edges.is("below", t.part(1), 1);
        edges.is("BAD", t.status(0), 1);
        edges.is("NO", t.status(1), 1);
        t.from(1);
        edges.is("IMAGE 1 is no part of IMAGE 0", t.count(1), 2);
        OvenLies u = Towns.with(Towns.lies(5, 9), 0);
        u.image(0);
        u.trues(0, 1, 7);
        u.from(0);
        edges.is("THE FRACTION as it was told behind it", u.part(0) * 100 + u.part(1), 310);
    }

    private static void statuses() {
        edges.sentence("36", "STATUS: BAD (0), NO (1), FULL (2)");
        OvenLies s = new OvenLies();
        for (int i = 0; i < 3; i++) edges.is("what " + i + " at first", s.status(i), 0);
        for (int i = 0; i < 3; i++) s.oven(6);
        for (int i = 0; i < 5; i++) s.oven(0);
        for (int i = 0; i < 2; i++) s.oven(0);
        s.undo();
        edges.is("BAD", s.status(0), 3);
        edges.is("NO", s.status(1), 1);
        edges.is("FULL", s.status(2), 2);
        edges.is("asking is none that counts", s.status(0), 3);

        edges.sentence("36", "-1: another what (counts as BAD)");
        for (int what : new int[] {-1, 3, MIN, MAX}) {
            edges.refused("what " + what, Towns::some, t -> t.status(what), -1, Edges.BAD);
        }

        edges.sentence("Terms", "STATUS: what is not told as BAD, NO, FULL does not count");
        OvenLies t = Towns.with(Towns.lies(0, 1), 0, 0);
        t.few(0, -1);
        t.few(0, 7);
        t.keep(0, 1);
        t.round(0);
        t.seen(0, 0, 0, 0, 60);
        t.tell(0);
        t.note(0, 1, 0, 0, 60);
        t.look(0);
        t.mark(0, 0, 0, 60);
        t.ask(0);
        t.arch(0, 9);
        t.read();
        t.type('x');
        t.read();
        for (int i = 0; i < 3; i++) edges.is("what " + i, t.status(i), 0);

        edges.sentence("Terms", "STATUS: -10 for BAD counts as BAD");
        t.few(2, 0);
        t.few(0, -2);
        t.round(2);
        t.round(-3);
        t.arch(2, 0);
        t.arch(0, -2);
        edges.is("BAD", t.status(0), 6);
    }

    private static void counts() {
        edges.sentence("37", "How many: 0 LIES .. 9 bytes of THE TEXT");
        // 27, 15 and 2; 12, 7 and 0; 11 and 7; 12 and 4; 99.
        int[] full = {7, 5, 2, 0, 196, 5, 6, 6, 8, 150};
        int[] some = {5, 3, 1, 2, 35, 2, 2, 2, 5, 29};
        for (int i = 0; i <= 9; i++) {
            int what = i;
            edges.asks("what " + what + " of none", Towns::empty, s -> s.count(what), 0);
            edges.asks("what " + what + " of some", Towns::some, s -> s.count(what), some[what]);
            edges.asks("what " + what + " of a full town", Towns::full, s -> s.count(what), full[what]);
        }
        edges.is("the DAY, the last", Towns.onLastDay().count(3), 9999);
        edges.sentence("37", "BAD");
        edges.bad("10", Towns::full, s -> s.count(10));
        edges.bad("-1", Towns::full, s -> s.count(-1));
        edges.bad("MIN", Towns::empty, s -> s.count(MIN));
        edges.bad("MAX", Towns::empty, s -> s.count(MAX));

        edges.sentence("37", "2 HOT, 4 HEAT of all");
        OvenLies hot = Towns.with(Towns.lies(5, 9, 5, 9, 5, 9, 5, 9, 5, 9), 0, 0, 0, 0, 0);
        for (int i = 0; i < 5; i++) {
            edges.is("HOT", hot.count(2), i);
            edges.is("HEAT of all", hot.count(4), 44 * i);
            hot.says(i, i);
        }
        edges.is("all 5", hot.count(2), 5);
        OvenLies one = Towns.with(Towns.lies(5, 9), 0, 0, 0);
        for (int o = 0; o < 3; o++) one.says(0, o);
        edges.is("44, 32 and 28 by one LIE alone, HOT", one.count(2), 3);
        edges.is("44, 32 and 28 by one LIE alone, HEAT of all", one.count(4), 104);
        one.town();
        for (int i = 0; i < 3; i++) one.lie(5, 9);
        one.oven(0);
        edges.is("three LIES, one OVEN where three were, HOT", one.count(2), 0);
        edges.is("three LIES, one OVEN where three were, HEAT of all", one.count(4), 0);
    }

    private static long mixed(long... values) {
        long h = 1697;
        for (long v : values) h = 31 * h + v;
        return h;
    }

    private static void digests() {
        edges.sentence("38", "h = 1697; then h = 31 h + v: nothing there");
        edges.asks("a new one", Towns::empty, OvenLies::digest, mixed(0, 0, 0, 0, 0, 0, 0, 0, 0, 0, 0, 1));
        edges.sentence("38", "of LIES KIND, UNTRUTH, KNOWN");
        OvenLies s = Towns.knownTo(5, 9, 9);
        s.lie(4, 1);
        int heat = s.about(0, 1);
        edges.is("two", s.digest(), mixed(2, 1, 1, 0, heat, 0, 0, 0, 0, 0, 5, 9, 9, 4, 1, 0, 0, heat, 0, 1));
        edges.sentence("38", "of OVENS KIND, HEAT");
        OvenLies o = Towns.ofHeat(2);
        o.oven(5);
        edges.is("two", o.digest(), mixed(1, 2, 0, 0, 2, 0, 0, 0, 0, 0, 0, 1, 1, 0, 2, 5, 0, 0, 1));
        edges.sentence("38", "of SEEN o, h, k, d, x; of NOTES l, u, k, d, x; of MARKS o, h, x, y");
        OvenLies m = Towns.with(Towns.lies(0, 1, 0, 1), 0, 0);
        m.seen(1, 99, 9, 98, 60);
        m.seen(0, 1, 2, 3, 4);
        m.note(1, 9, 8, 99, 59);
        m.note(0, 1, 2, 3, 4);
        m.mark(1, 99, 58, 57);
        m.mark(0, 1, 2, 3);
        edges.is("two of each", m.digest(), mixed(2, 2, 0, 0, 0, 2, 2, 2, 0, 0, 0, 1, 0, 0, 1, 0, 0, 0, 0, 0,
            1, 99, 9, 98, 60, 0, 1, 2, 3, 4, 1, 9, 8, 99, 59, 0, 1, 2, 3, 4, 1, 99, 58, 57, 0, 1, 2, 3, 0, 1));
        m.forget(1);
        edges.is("none of NOTES", m.digest(), mixed(2, 2, 0, 0, 0, 2, 0, 2, 0, 0, 0, 1, 0, 0, 1, 0, 0, 0, 0, 0,
            1, 99, 9, 98, 60, 0, 1, 2, 3, 4, 1, 99, 58, 57, 0, 1, 2, 3, 0, 1));
        edges.sentence("38", "THE FRACTION");
        OvenLies f = Towns.with(Towns.lies(5, 9, 5, 9, 5, 9, 5, 9, 5, 9, 5, 9, 5, 9), 0);
        f.trues(0, 127, 9);
        edges.is("of 10 millions", f.digest(), mixed(7, 1, 0, 0, 0, 0, 0, 0, 0, 0, 5, 9, 0, 5, 9, 0, 5, 9, 0, 5, 9, 0,
            5, 9, 0, 5, 9, 0, 5, 9, 0, 0, 0, 5217031, 10000000));
        edges.sentence("38", "it is asked without any change");
        edges.asks("of a full town", Towns::full, OvenLies::digest, Towns.full().digest());
        edges.is("THE TEXT's bytes are no part of it", Towns.typed("a").digest(), Towns.typed("b").digest());
        edges.is("STATUS is no part of it", refusedOne().digest(), new OvenLies().digest());
    }

    private static OvenLies refusedOne() {
        OvenLies s = new OvenLies();
        s.undo();
        s.lie(9, 9);
        return s;
    }

    private static void manyCalls() {
        edges.sentence("The public face", "An object is used for at most 512 calls");
        OvenLies s = new OvenLies();
        s.lie(5, 9);
        s.oven(0);
        for (int i = 1; i <= 508; i++) s.days(1);
        edges.is("the 511th: DAY 508", s.undo(), 507);
        edges.is("the 512th", s.count(3), 507);
        OvenLies t = new OvenLies();
        for (int i = 0; i < 511; i++) t.undo();
        edges.is("the 512th: 511 were refused", t.status(1), 511);
        OvenLies u = new OvenLies();
        for (int i = 0; i < 511; i++) u.image(i % 2);
        edges.is("the 512th", u.from(1), 1);
    }

    public static void main(String[] args) {
        parts();
        imagesAreKept();
        goesOnFromOne();
        statuses();
        counts();
        digests();
        manyCalls();
        edges.end();
    }
}
