/* Promises 8 to 13: DAYS, SAYING, FORGETTING, UNDO, and what is told of a LIE and of an OVEN. */
public final class EdgesOfDaysTest {
    private static final Edges edges = new Edges();

    private static void hot() {
        edges.sentence("Terms", "An OVEN is HOT, if its HEAT is 20 or more");
        for (int h : new int[] {0, 1, 13, 19, 20, 21, 98, 99}) {
            OvenLies s = Towns.ofHeat(h);
            edges.is("HEAT " + h, s.about(0, 1), h);
            edges.is("HEAT " + h + ", HOT", s.about(0, 2), h >= 20 ? 1 : 0);
            edges.is("HEAT " + h + ", how many are HOT", s.count(2), h >= 20 ? 1 : 0);
            edges.is("HEAT " + h + ", behind a DAY", s.days(1), h >= 27 ? 1 : 0);
        }
        edges.is("26 less 7", Towns.ofHeat(26).days(1), 0);
        edges.is("27 less 7", Towns.ofHeat(27).days(1), 1);
    }

    private static void daysGoBy() {
        edges.sentence("8", "n DAYS go by (1 .. 60): how many OVENS are HOT");
        OvenLies s = Towns.ofHeat(99);
        s.oven(0);
        s.says(0, 1);
        edges.is("32 of the second one: 25", s.days(1), 2);
        edges.is("92 and 25", s.count(4), 92 + 25);
        edges.is("the DAY", s.count(3), 1);
        edges.is("85 and 18", s.days(1), 1);
        edges.is("nine more: 22", s.days(9), 1);
        edges.is("one more: 15", s.days(1), 0);
        edges.is("60 of them", s.days(60), 0);
        edges.is("the DAY", s.count(3), 72);
        edges.is("no OVEN at all", Towns.empty().days(60), 0);

        edges.sentence("8", "A DAY: HEAT of each OVEN is 7 less (0 at least)");
        int[][] heats = {{0, 0}, {1, 0}, {6, 0}, {7, 0}, {8, 1}, {14, 7}, {99, 92}};
        for (int[] heat : heats) {
            OvenLies t = Towns.ofHeat(heat[0]);
            t.days(1);
            edges.is("HEAT " + heat[0], t.about(0, 1), heat[1]);
        }
        OvenLies long99 = Towns.ofHeat(99);
        long99.days(14);
        edges.is("99 behind 14", long99.about(0, 1), 1);
        long99.days(60);
        edges.is("0 at least", long99.about(0, 1), 0);
        long99.says(0, 0);
        edges.is("and no less than that", long99.about(0, 1) > 0 ? 1 : 0, 1);

        edges.sentence("8", "KNOWN stays as it is by DAYS");
        OvenLies known = Towns.knownTo(0, 9, 9);
        known.days(60);
        edges.is("KNOWN", known.of(0, 2), 9);

        edges.sentence("8", "together one that may be undone");
        OvenLies u = Towns.ofHeat(99);
        int before = u.count(8);
        u.days(60);
        edges.is("60 of them are one", u.count(8), before + 1);
        edges.is("undone", u.undo(), 0);
        edges.is("HEAT", u.about(0, 1), 99);
        u.days(1);
        edges.is("one is one", u.count(8), before + 1);
    }

    private static void theLastDay() {
        edges.sentence("Terms", "DAYS have numbers, 0 at first (9999 at most)");
        edges.is("at first", Towns.empty().count(3), 0);
        OvenLies s = Towns.onDay(9998);
        s.days(1);
        edges.is("one more", s.count(3), 9999);
        s.days(1);
        edges.is("no more", s.count(3), 9999);
        OvenLies t = Towns.onDay(9940);
        t.days(60);
        edges.is("60 of 60 left but one", t.count(3), 9999);
        OvenLies u = Towns.onDay(9939);
        u.days(60);
        edges.is("60 of 60 left", u.count(3), 9999);

        edges.sentence("8", "at 9999 none goes by");
        OvenLies v = Towns.onDay(9990);
        v.oven(0);
        Towns.heatUp(v, 0, 99);
        edges.is("9 of 60 go by: 99 less 63", v.days(60), 1);
        edges.is("HEAT", v.about(0, 1), 36);
        edges.is("the DAY", v.count(3), 9999);
        edges.is("none goes by: it is HOT still", v.days(60), 1);
        edges.is("HEAT", v.about(0, 1), 36);
        edges.is("the DAY", v.count(3), 9999);

        edges.sentence("8", "also if none goes by, one that may be undone");
        int before = v.count(8);
        v.days(1);
        edges.is("that may be undone", v.count(8), before + 1);
        edges.is("undone, the DAY", v.undo(), 9999);
        edges.is("undone, HEAT", v.about(0, 1), 36);
        v.undo();
        edges.is("the 9 undone, the DAY", v.undo(), 9990);
        edges.is("the 9 undone, HEAT", v.about(0, 1), 99);
        OvenLies eight = Towns.onLastDay();
        for (int i = 0; i < 8; i++) eight.days(60);
        for (int i = 0; i < 8; i++) edges.is("eight of none", eight.undo(), 9999);
        edges.is("they took the place of all ahead of them", eight.undo(), -3);
    }

    private static void sayings() {
        edges.sentence("9", "SAYING: HEAT of the OVEN then");
        OvenLies s = Towns.with(Towns.lies(1, 9, 0, 1), 0, 2);
        edges.is("FIB for the first time", s.says(0, 0), 22);
        edges.is("KNOWN to one: 16, half of it", s.says(0, 1), 8);
        edges.is("the other's HEAT stays", s.about(0, 1), 22);
        edges.is("the DAY stays", s.count(3), 0);
        edges.is("it lights by 0 in the end", Towns.knownTo(0, 1, 1).says(0, 0), 2);

        edges.sentence("Terms", "SAYING: HEAT is 99 at most");
        OvenLies h98 = Towns.ofHeat(98);
        h98.lie(2, 1);
        edges.is("98 and 1", h98.says(h98.count(0) - 1, 0), 99);
        OvenLies h97 = Towns.ofHeat(97);
        h97.lie(0, 1);
        edges.is("97 and 2", h97.says(h97.count(0) - 1, 0), 99);
        OvenLies over = Towns.ofHeat(98);
        over.lie(0, 1);
        edges.is("98 and 2", over.says(over.count(0) - 1, 0), 99);
        OvenLies full = Towns.ofHeat(99);
        full.lie(5, 9);
        edges.is("99 and 44", full.says(full.count(0) - 1, 0), 99);
        edges.is("it is KNOWN to one more for all that", full.of(full.count(0) - 1, 2), 1);
        edges.is("95 and 2", heatedBy(95, 0, 1), 97);

        edges.sentence("Terms", "then the LIE is KNOWN to one more (9 at most)");
        OvenLies known = Towns.with(Towns.lies(0, 9, 0, 9), 0);
        int[] due = {18, 34, 48, 60, 70, 78, 84, 88, 90, 90, 90};
        for (int i = 0; i < due.length; i++) {
            edges.is("said " + (i + 1) + " times", known.says(0, 0), due[i]);
            edges.is("KNOWN", known.of(0, 2), Math.min(9, i + 1));
        }
        edges.is("KNOWN of the other", known.of(1, 2), 0);
        edges.is("by 9 CONFESSED is as PLAIN, 0", Towns.knownTo(4, 9, 12).of(0, 3), 0);
    }

    private static int heatedBy(int h, int kind, int u) {
        OvenLies s = Towns.ofHeat(h);
        return s.says(s.lie(kind, u), 0);
    }

    private static void forgetting() {
        edges.sentence("10", "FORGETTING: to how many it was KNOWN");
        edges.is("one", Towns.knownTo(0, 9, 1).forgets(0), 1);
        edges.is("nine", Towns.knownTo(0, 9, 9).forgets(0), 9);
        edges.is("nine at most", Towns.knownTo(0, 9, 12).forgets(0), 9);
        OvenLies s = Towns.knownTo(1, 9, 5);
        s.lie(0, 9);
        s.says(1, 0);
        s.forgets(0);
        edges.is("KNOWN to 0", s.of(0, 2), 0);
        edges.is("it lights as at first", s.of(0, 3), 22);
        edges.is("KNOWN of the other", s.of(1, 2), 1);

        edges.sentence("10", "NO: to none");
        edges.no("never said", () -> Towns.with(Towns.lies(0, 1), 0), t -> t.forgets(0));
        edges.no("forgotten already", Towns::some, t -> t.forgets(0));
        edges.no("in a full town", Towns::full, t -> t.forgets(6));

        edges.sentence("10", "BAD ahead of NO");
        edges.bad("a LIE that is not there", () -> Towns.with(Towns.lies(0, 1), 0), t -> t.forgets(1));
    }

    private static void undoing() {
        edges.sentence("11", "NO: none may be");
        edges.no("a new object", Towns::empty, OvenLies::undo);
        edges.no("behind a LIE", () -> Towns.with(Towns.lies(0, 1)), OvenLies::undo);
        OvenLies once = Towns.knownTo(0, 9, 1);
        once.undo();
        edges.is("one alone", once.undo(), -3);
        edges.is("it is counted", once.status(1), 1);

        edges.sentence("11", "HEAT, KNOWN, the DAY as ahead of the last DAYS gone by");
        OvenLies s = Towns.some();
        s.days(60);
        edges.is("the DAY then", s.undo(), 2);
        edges.is("HEAT", s.count(4), Towns.some().count(4));
        edges.sentence("11", ".. SAYING");
        s.says(4, 2);
        edges.is("the DAY then", s.undo(), 2);
        edges.is("HEAT", s.about(2, 1), Towns.some().about(2, 1));
        edges.is("KNOWN", s.of(4, 2), 0);
        edges.sentence("11", ".. FORGETTING");
        s.forgets(1);
        edges.is("the DAY then", s.undo(), 2);
        edges.is("KNOWN", s.of(1, 2), 1);
        edges.is("nothing else is other", s.digest(), Towns.some().digest());

        edges.sentence("11", "HEAT of each OVEN, KNOWN of each LIE, of as many as there can be");
        OvenLies all = Towns.with(Towns.lies(0, 9, 0, 8, 0, 7, 0, 6, 0, 5, 0, 4, 0, 3), 0, 0, 0, 0, 0);
        int[] said = {0, 1, 2, 2, 3, 3, 4, 4, 4, 5, 5, 5, 6};
        for (int i = 0; i < said.length; i++) all.says(said[i], Math.min(4, i));
        int[] heat = {18, 16, 14, 12, 70}, known = {1, 1, 2, 2, 3, 3, 1};
        for (int times = 0; times < 3; times++) {
            all.days(1 + times);
            all.says(6, 4);
            all.says(0, 0);
            all.forgets(3);
            for (int i = 0; i < 4; i++) edges.is("the DAY then", all.undo(), i == 3 ? 0 : 1 + times);
            for (int o = 0; o < 5; o++) edges.is("HEAT of " + o, all.about(o, 1), heat[o]);
            for (int l = 0; l < 7; l++) edges.is("KNOWN of " + l, all.of(l, 2), known[l]);
        }

        edges.sentence("11", "8 at most");
        for (int n : new int[] {0, 1, 7, 8, 9, 10, 15, 16, 17, 24, 25, 33}) {
            OvenLies t = new OvenLies();
            for (int i = 0; i < n; i++) t.days(1);
            edges.is(n + " of them", t.count(8), Math.min(8, n));
            for (int i = 1; i <= Math.min(8, n); i++) edges.is(n + " of them, back", t.undo(), n - i);
            edges.is(n + " of them, no more", t.undo(), -3);
            edges.is(n + " of them, the DAY", t.count(3), Math.max(0, n - 8));
        }

        edges.sentence("11", "each one by itself is one of 8");
        OvenLies mixed = Towns.with(Towns.lies(0, 9), 0);
        for (int i = 0; i < 3; i++) {
            mixed.says(0, 0);
            mixed.days(1);
            mixed.forgets(0);
        }
        edges.is("eight of nine", mixed.count(8), 8);
        int[] heats = {33, 40, 22, 22, 29, 11, 11, 18};
        for (int i = 0; i < 8; i++) {
            mixed.undo();
            edges.is("HEAT " + i + " back", mixed.about(0, 1), heats[i]);
        }
        edges.is("the first SAYING stays", mixed.of(0, 2), 1);
        edges.is("no more", mixed.undo(), -3);

        notUndone();
    }

    private static void notUndone() {
        edges.sentence("11", "what else was told is not undone");
        OvenLies s = Towns.with(Towns.lies(0, 9), 0);
        s.says(0, 0);
        s.seen(0, 0, 0, 0, 18);
        s.note(0, 9, 0, 0, 18);
        s.mark(0, 0, 9, 9);
        s.trues(0, 1, 5);
        s.type(65);
        s.image(0);
        edges.is("undo", s.undo(), 0);
        edges.is("SEEN, NOTES, MARKS", s.count(5) + s.count(6) + s.count(7), 3);
        edges.is("THE FRACTION", s.part(1), 2);
        edges.is("THE TEXT", s.count(9), 1);
        edges.is("HEAT", s.about(0, 1), 0);
        edges.is("the IMAGE", s.from(0), 1);
        edges.is("HEAT of it", s.about(0, 1), 18);

        edges.sentence("11", "refused calls are none that may be undone");
        OvenLies t = Towns.with(Towns.lies(0, 9), 0);
        t.days(0);
        t.days(61);
        t.says(0, 1);
        t.says(1, 0);
        t.forgets(0);
        t.forgets(1);
        edges.is("none", t.count(8), 0);

        edges.sentence("11", "questions are none that may be undone");
        OvenLies u = Towns.some();
        int before = u.count(8);
        u.takes(0, 0);
        u.then(0, 60);
        u.few(0, -1);
        u.round(0);
        u.keep(0, 9);
        u.trues(0, 3, 3);
        u.years(1, 60);
        u.image(1);
        edges.is("as many as before", u.count(8), before);
    }

    private static void whatIsTold() {
        edges.sentence("12", "KIND (0), UNTRUTH (1), KNOWN (2), LIGHTS now (3)");
        OvenLies s = Towns.knownTo(4, 9, 2);
        int[] due = {4, 9, 2, 14};
        for (int what = 0; what <= 3; what++) edges.is("what " + what, s.of(0, what), due[what]);
        s.days(6);
        edges.is("LIGHTS by the DAY that is now", s.of(0, 3), 20);
        s.undo();
        edges.is("LIGHTS by the DAY that is now", s.of(0, 3), 14);

        edges.sentence("13", "KIND (0), HEAT (1), HOT (2; 1, 0)");
        OvenLies t = Towns.with(Towns.lies(5, 9), 5, 3);
        t.says(0, 0);
        int[] first = {5, 49, 1}, second = {3, 0, 0};
        for (int what = 0; what <= 2; what++) {
            edges.is("OVEN 0, what " + what, t.about(0, what), first[what]);
            edges.is("OVEN 1, what " + what, t.about(1, what), second[what]);
        }
    }

    public static void main(String[] args) {
        hot();
        daysGoBy();
        theLastDay();
        sayings();
        forgetting();
        undoing();
        whatIsTold();
        edges.end();
    }
}
