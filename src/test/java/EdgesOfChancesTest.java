/* Promises 30 to 32: two bakers at one arch, LIES that come about by odds, years by a seed. */
public final class EdgesOfChancesTest {
    private static final int MAX = Integer.MAX_VALUE, MIN = Integer.MIN_VALUE;

    private static final Edges edges = new Edges();

    private static void rest(String call, OvenLies s, int... pairs) {
        edges.is(call + ": how many", s.arch(0, -1), pairs.length);
        for (int k = 0; k < pairs.length; k++) edges.is(call + ": the " + k, s.arch(0, k), pairs[k]);
        edges.is(call + ": not so many", s.arch(0, pairs.length), -5);
    }

    private static void arches() {
        edges.sentence("30", "nothing there yet");
        rest("no LIES", Towns.with(Towns.lies(), 0));
        rest("one LIE: it goes out, but there is no other", Towns.with(Towns.lies(5, 9), 0), 0);

        edges.sentence("30", "-5: not so many");
        edges.asks("of none the first", () -> Towns.with(Towns.lies(), 0), s -> s.arch(0, 0), -5);
        edges.asks("of one the first", () -> Towns.with(Towns.lies(5, 9), 0), s -> s.arch(0, 0), 0);
        edges.asks("of one the second", () -> Towns.with(Towns.lies(5, 9), 0), s -> s.arch(0, 1), -5);
        edges.asks("the last that can be asked", Towns::some, s -> s.arch(0, MAX), -5);

        edges.sentence("30", "BAD: -10: k below -1, too");
        edges.refused("k -2", Towns::some, s -> s.arch(0, -2), -10, Edges.BAD);
        edges.refused("k MIN", Towns::some, s -> s.arch(0, MIN), -10, Edges.BAD);
        edges.refused("ahead of -5", () -> Towns.with(Towns.lies(), 0), s -> s.arch(0, -2), -10, Edges.BAD);
        edges.refused("no such OVEN", Towns::some, s -> s.arch(3, -1), -10, Edges.BAD);

        edges.sentence("30", "pairs 10 i and j that rest (neither would get more by another LIE), rising");
        rest("18 and 10", Towns.with(Towns.lies(0, 9, 0, 5), 0), 1, 10);
        rest("18, 10 and 16: the best two", Towns.with(Towns.lies(0, 9, 0, 5, 0, 8), 0), 2, 20);
        rest("as much by any other", Towns.with(Towns.lies(0, 9, 0, 9, 0, 9), 0), 1, 2, 10, 12, 20, 21);
        rest("18, 18 and 10", Towns.with(Towns.lies(0, 9, 0, 5, 0, 9), 0), 2, 20);
        rest("18, 10 and 10: one of the best, any of the others", Towns.with(Towns.lies(0, 9, 0, 5, 0, 5), 0), 1, 2, 10,
            20);
        OvenLies seven = Towns.with(Towns.lies(0, 9, 0, 9, 0, 9, 0, 9, 0, 9, 0, 9, 0, 9), 0);
        edges.is("42 of 7 alike", seven.arch(0, -1), 42);
        edges.is("the last of them", seven.arch(0, 41), 65);
        edges.is("one more", seven.arch(0, 42), -5);

        edges.sentence("30", "the same: it goes out, to each -3");
        // KNOWN to 3 and lighting by 0 is as little as that, KNOWN to 4 is less, KNOWN to 2 more.
        rest("0, and 0 less 2", wornArch(0, 2), 1, 10);
        rest("0, and 0 less 3", wornArch(0, 3), 0, 1, 10);
        rest("0, and 0 less 4", wornArch(0, 4), 0);
        rest("0 less 3 each", wornArch(3, 3), 0, 1, 10, 11);
        rest("0 less 4 each", wornArch(4, 4), 0, 11);
        OvenLies all = Towns.with(Towns.lies(0, 1, 0, 1, 0, 1, 0, 1, 0, 1, 0, 1, 0, 1), 0);
        for (int i = 0; i < 21; i++) all.says(i % 7, 0);
        edges.is("all 49 of 7", all.arch(0, -1), 49);
        edges.is("the last of them", all.arch(0, 48), 66);
        edges.is("one more", all.arch(0, 49), -5);

        edges.sentence("30", "less 1 for each to whom that is KNOWN");
        OvenLies known = Towns.with(Towns.lies(4, 9, 0, 1, 0, 1), 0);
        for (int i = 0; i < 9; i++) known.says(0, 0);
        rest("0 less 9: the others", known, 12, 21);
        known.days(6);
        rest("on DAY 6 it is 6 less 9, as if it went out", known, 12, 21);

        edges.sentence("30", "what it TAKES of his, as they are KNOWN now");
        rest("CLAY: 12, 12 and 10", Towns.with(Towns.lies(0, 9, 0, 6, 0, 5), 1), 1, 10);
        rest("SMALL: 9, 9 and 8", Towns.with(Towns.lies(0, 9, 0, 9, 0, 8), 2), 1, 10);
        edges.asks("nothing is changed", Towns::some, s -> s.arch(0, -1), Towns.some().arch(0, -1));
    }

    /* Two LIES of UNTRUTH 1, KNOWN to so many; the first one lights by 0 also where it is KNOWN to none. */
    private static OvenLies wornArch(int first, int second) {
        OvenLies s = Towns.with(Towns.lies(2, 1, 0, 1), 2);
        for (int i = 0; i < first; i++) s.says(0, 0);
        for (int i = 0; i < second; i++) s.says(1, 0);
        return s;
    }

    private static void chance(String call, OvenLies s, int lies, int c, long above, long below) {
        edges.is(call, s.trues(0, lies, c), 1);
        edges.is(call + ", above", s.part(0), above);
        edges.is(call + ", below", s.part(1), below);
    }

    private static void trues() {
        edges.sentence("31", "each by c of 10 (0 .. 10)");
        OvenLies s = Towns.with(Towns.lies(5, 9), 0);
        chance("0: surely HOT", s, 1, 0, 1, 1);
        chance("1", s, 1, 1, 9, 10);
        chance("5", s, 1, 5, 1, 2);
        chance("9", s, 1, 9, 1, 10);
        chance("10: surely not", s, 1, 10, 0, 1);

        edges.sentence("31", "LIES told (bits)");
        chance("none, not HOT", s, 0, 5, 0, 1);
        chance("none, HOT already", Towns.ofHeat(20), 0, 5, 1, 1);
        chance("all, HOT already, by 10", Towns.ofHeat(20), 1, 10, 1, 1);
        chance("19, none of them", wornWith19(), 0, 5, 0, 1);
        chance("19 and 1", wornWith19(), 8, 3, 7, 10);
        OvenLies seven = Towns.with(Towns.lies(5, 9, 5, 9, 5, 9, 5, 9, 5, 9, 5, 9, 5, 9), 0);
        chance("all of 7, one is enough: 1 less 9 of 10, seven times", seven, 127, 9, 5217031, 10000000);
        chance("the last of 7", seven, 64, 3, 7, 10);
        OvenLies little = Towns.with(Towns.lies(0, 1, 0, 1, 0, 1, 0, 1, 0, 1, 0, 1, 0, 4), 0);
        chance("all of 7 are needed: 20", little, 127, 1, 4782969, 10000000);
        chance("all but one: 18", little, 126, 1, 0, 1);
        edges.bad("bits of a LIE that is not there", Towns::some, t -> t.trues(0, 32, 5));
        edges.bad("bits below 0", Towns::some, t -> t.trues(0, -1, 5));
        edges.bad("any bits, no LIES", () -> Towns.with(Towns.lies(), 0), t -> t.trues(0, 1, 5));
        chance("no LIES, no bits", Towns.with(Towns.lies(), 0), 0, 10, 0, 1);

        edges.sentence("31", "having come true (it LIGHTS by 0 then)");
        // PRIEST'S takes nothing of 0; of 44 it takes 26.
        chance("PRIEST'S", Towns.with(Towns.lies(5, 9), 3), 1, 4, 3, 5);

        edges.sentence("31", "(.. else as it does now)");
        OvenLies known = Towns.with(Towns.lies(1, 8), 0, 0);
        known.says(0, 1);
        chance("KNOWN to 1: 14", known, 1, 5, 0, 1);
        known.forgets(0);
        chance("KNOWN to none: 20", known, 1, 5, 1, 2);
        OvenLies day = Towns.with(Towns.lies(5, 9), 2);
        chance("SMALL of COME ABOUT on DAY 0: 22", day, 1, 5, 1, 2);
        day.days(1);
        chance("SMALL of COME ABOUT on DAY 1: 11", day, 1, 5, 0, 1);

        edges.sentence("31", "by numbers");
        // OLD: 12 (of 18), then 8 less 1; but 8, then 12 would be HOT.
        chance("12, then 7", Towns.with(Towns.lies(0, 9, 0, 4), 4), 3, 0, 0, 1);
        chance("8, then 12", Towns.with(Towns.lies(0, 4, 0, 9), 4), 3, 0, 1, 1);

        edges.sentence("31", "99 at most in it; HOT is 20 or more");
        chance("20", Towns.with(Towns.lies(1, 8), 0), 1, 5, 1, 2);
        chance("18", Towns.with(Towns.lies(1, 7), 0), 1, 5, 0, 1);
        chance("99 and 44", Towns.ofHeat(99), 3, 5, 1, 1);

        edges.sentence("31", "nobody more KNOWS it by that");
        OvenLies same = Towns.knownTo(0, 9, 3);
        OvenLies twin = Towns.knownTo(0, 9, 3);
        same.trues(0, 1, 10);
        twin.trues(0, 0, 10);
        edges.is("KNOWN", same.of(0, 2), 3);
        edges.is("HEAT, the DAY", same.about(0, 1) * 10 + same.count(3), 480);
        edges.is("that may be undone", same.count(8), 3);

        edges.sentence("Terms", "THE FRACTION: lowest terms, below above 0");
        chance("5 of 10", s, 1, 5, 1, 2);
        chance("2 of 10", s, 1, 8, 1, 5);
        chance("0 of 10", s, 1, 10, 0, 1);
        chance("10 of 10", s, 1, 0, 1, 1);
        chance("24 of 100: 6 of 25", Towns.with(Towns.lies(0, 9, 0, 1), 0), 3, 4, 9, 25);

        edges.sentence("31", "refused, THE FRACTION stays");
        chance("3 of 10", s, 1, 7, 3, 10);
        s.trues(0, 1, 11);
        s.trues(0, 2, 5);
        s.trues(1, 1, 5);
        edges.is("above", s.part(0), 3);
        edges.is("below", s.part(1), 10);
    }

    private static OvenLies wornWith19() {
        OvenLies s = Towns.worn(19);
        s.lie(2, 1);
        return s;
    }

    private static OvenLies strong(int lies, int ovens) {
        OvenLies s = new OvenLies();
        for (int i = 0; i < lies; i++) s.lie(5, 9);
        for (int i = 0; i < ovens; i++) s.oven(0);
        return s;
    }

    private static OvenLies oneAlone(int lie, int kind, int u, int oven) {
        OvenLies s = new OvenLies();
        for (int i = 0; i < lie; i++) s.lie(0, 1);
        s.lie(kind, u);
        for (int i = 0; i <= oven; i++) s.oven(0);
        return s;
    }

    private static void years() {
        edges.sentence("32", "n (0 .. 60) DAYS");
        edges.asks("0, nothing is HOT", Towns::empty, s -> s.years(0, 0), 0);
        edges.is("0, one is HOT", Towns.ofHeat(20).years(0, 0), 1);
        edges.is("1, it was HOT", Towns.ofHeat(20).years(1, 1), 0);
        // By SEED 91 LIE 0 is said into OVEN 0 on the 60th DAY alone: 44, as it is DAY 60 then.
        OvenLies late = strong(1, 1);
        late.days(1);
        edges.is("59", late.years(91, 59), 0);
        edges.is("60", late.years(91, 60), 1);

        edges.sentence("32", "a SEED (0 .. 999999)");
        // SEED 0: LIE 0 into OVEN 0; SEED 999999: LIE 2 into OVEN 0, then 4 into 2; SEED 1: 3 into 2, then 4 into 4.
        edges.is("0", strong(1, 1).years(0, 1), 1);
        edges.is("999999", oneAlone(2, 5, 9, 0).years(999999, 1), 1);
        edges.is("999999, one LIE too few", oneAlone(1, 5, 9, 0).years(999999, 1), 0);
        edges.is("1", oneAlone(3, 5, 9, 2).years(1, 1), 1);

        edges.sentence("32", "LIE X by 65536 (cut), by 7 left over; OVEN X by 1048576 (cut), by 5 left over");
        // X by 1048576 leaves nearly all or nearly nothing over; so does X by 65536 for SEEDS 5 and 3.
        edges.is("467664742: 2 into 0", oneAlone(2, 5, 9, 0).years(3009, 1), 1);
        edges.is("1039138612: 0 into 0", strong(1, 1).years(4615, 1), 1);
        edges.is("1373635648: 2 into 0", oneAlone(2, 5, 9, 0).years(5059, 1), 1);
        edges.is("1945109518: 0 into 0", strong(1, 1).years(6665, 1), 1);
        edges.is("1222621274: 0 into 0", strong(1, 1).years(5, 1), 1);
        edges.is("1163074432: 2 into 4", oneAlone(2, 5, 9, 4).years(3, 1), 1);

        edges.sentence("32", "one of both not there: nothing");
        edges.is("one OVEN too few", oneAlone(3, 5, 9, 1).years(1, 1), 0);
        edges.is("one LIE too few", oneAlone(2, 5, 9, 2).years(1, 1), 0);
        edges.is("none at all", Towns.empty().years(1, 60), 0);
        edges.is("no OVEN", strong(7, 0).years(1, 60), 0);
        edges.is("no LIE", strong(0, 5).years(1, 60), 0);
        OvenLies cools = Towns.ofHeat(34);
        edges.is("but the DAY goes by: 34, 27", cools.years(1, 1), 1);
        edges.is("34, 27, 20", cools.years(1, 2), 1);
        edges.is("34, 27, 20, 13", cools.years(1, 3), 0);

        edges.sentence("32", "X becomes ..");
        edges.is("LIE 3 into OVEN 2, 4 into 4", strong(7, 5).years(1, 1), 1);
        edges.is("37 and 22 (on DAY 1): 30 and 15", strong(7, 5).years(1, 2), 1);
        OvenLies last = strong(7, 5);
        edges.is("SEED 2: LIE 5 into OVEN 1: 37; LIE 4 there, too: 52", last.years(2, 2), 1);
        edges.is("KNOWN to more: FIB of 7 is 18, then 12: 11, 16", oneAlone(2, 1, 7, 4).years(3, 2), 0);
        edges.is("FIB of 9 is 22, then 16: 15, 24", oneAlone(2, 1, 9, 4).years(3, 2), 1);

        edges.sentence("32", "99 at most in it");
        // By SEED 40 OVEN 0 hears LIE 0 on the first DAY, and no other of four for 13 DAYS more.
        edges.is("99 less 77: 22", Towns.ofHeat(99).years(40, 11), 1);
        edges.is("99 less 84: 15", Towns.ofHeat(99).years(40, 12), 0);

        edges.sentence("32", "DAYS go beyond 9999 in it");
        // FIB of 9 on DAY 9999: 22 less 7; COME ABOUT on DAY 10000: 44 less 7.
        OvenLies s = Towns.onLastDay();
        for (int i = 0; i < 7; i++) s.lie(5, 9);
        for (int i = 0; i < 5; i++) s.oven(0);
        edges.is("DAY 9999", s.years(1, 1), 0);
        edges.is("DAY 10000", s.years(1, 2), 1);
        edges.is("the DAY stays", s.count(3), 9999);

        edges.sentence("32", "nothing is changed");
        edges.asks("by a DAY", Towns::some, t -> t.years(0, 1), 1);
        edges.asks("by 60", Towns::full, t -> t.years(999999, 60), Towns.full().years(999999, 60));
    }

    public static void main(String[] args) {
        arches();
        trues();
        years();
        edges.end();
    }
}
