/* Promises 14 to 19: what an OVEN would take, when it is cold, the fewest SAYINGS, one into each, what keeps one HOT. */
public final class EdgesOfHeatTest {
    private static final int MAX = Integer.MAX_VALUE, MIN = Integer.MIN_VALUE;

    private static final Edges edges = new Edges();

    private static void wouldTake() {
        edges.sentence("14", "TAKES: above 99, too");
        OvenLies s = Towns.ofHeat(99);
        int l = s.lie(1, 9);
        edges.is("of HEAT 99", s.takes(0, l), 22);
        edges.is("HEAT stays", s.about(0, 1), 99);
        edges.is("KNOWN stays", s.of(l, 2), 0);
        edges.sentence("14", "TAKES: nothing is changed");
        edges.asks("takes", Towns::some, t -> t.takes(1, 3), 27);
        edges.asks("takes in a full town", Towns::full, t -> t.takes(4, 1), 18);
    }

    private static OvenLies onLastDayOfHeat(int h) {
        OvenLies s = Towns.onLastDay();
        s.oven(0);
        Towns.heatUp(s, 0, h);
        return s;
    }

    private static void thenAndCold() {
        edges.sentence("15", "THEN: HEAT of an OVEN behind m (0 .. 60) DAYS");
        OvenLies s = Towns.ofHeat(99);
        edges.is("0", s.then(0, 0), 99);
        edges.is("1", s.then(0, 1), 92);
        edges.is("13", s.then(0, 13), 8);
        edges.is("14", s.then(0, 14), 1);
        edges.is("15", s.then(0, 15), 0);
        edges.is("60", s.then(0, 60), 0);
        edges.is("7 by 1", Towns.ofHeat(7).then(0, 1), 0);
        edges.is("8 by 1", Towns.ofHeat(8).then(0, 1), 1);
        edges.is("14 by 2", Towns.ofHeat(14).then(0, 2), 0);
        edges.asks("nothing is changed", Towns::some, t -> t.then(0, 2), 12);
        edges.sentence("15", "DAYS go beyond 9999 in it");
        edges.is("no DAY", onLastDayOfHeat(30).then(0, 0), 30);
        edges.is("one DAY", onLastDayOfHeat(30).then(0, 1), 23);
        edges.is("two", onLastDayOfHeat(30).then(0, 2), 16);

        edges.sentence("16", "COLD: in how many DAYS (0 .. 60) an OVEN is not HOT first");
        int[][] due = {{0, 0}, {19, 0}, {20, 1}, {26, 1}, {27, 2}, {33, 2}, {34, 3}, {96, 11}, {97, 12}, {99, 12}};
        for (int[] row : due) edges.is("HEAT " + row[0], Towns.ofHeat(row[0]).cold(0), row[1]);
        edges.asks("nothing is changed", Towns::full, t -> t.cold(4), 12);
        edges.sentence("16", "DAYS go beyond 9999 in it");
        edges.is("as many as on any DAY", onLastDayOfHeat(34).cold(0), 3);
    }

    private static void few(String call, OvenLies s, int oven, int... lies) {
        edges.is(call + ": how many", s.few(oven, -1), lies.length);
        for (int k = 0; k < lies.length; k++) edges.is(call + ": the LIE " + k, s.few(oven, k), lies[k]);
        edges.is(call + ": not so many", s.few(oven, lies.length), -5);
    }

    private static OvenLies wornWith(int h, int... kindsAndUntruths) {
        OvenLies s = Towns.worn(h);
        for (int i = 0; i < kindsAndUntruths.length; i += 2) s.lie(kindsAndUntruths[i], kindsAndUntruths[i + 1]);
        return s;
    }

    private static void fewest() {
        edges.sentence("17", "FEW: how many (0 .. 5)");
        few("HOT already, 20", Towns.ofHeat(20), 0);
        few("HOT already, 99", Towns.ofHeat(99), 0);
        // 19 is by three LIES that light by 0 now, 18 by two.
        few("19, and 1", wornWith(19, 2, 1), 0, 3);
        few("18, and 1 twice", wornWith(18, 2, 1, 2, 1), 0, 2, 3);
        edges.is("18, and 1 once", wornWith(18, 2, 1).few(0, -1), -6);
        few("five by 4 each", Towns.with(Towns.lies(2, 4, 2, 4, 2, 4, 2, 4, 2, 4), 0), 0, 0, 1, 2, 3, 4);
        edges.is("six would do", Towns.with(Towns.lies(2, 4, 2, 4, 2, 4, 2, 4), 0).few(0, -1), -6);

        edges.sentence("17", "any LIE as often as is liked");
        // CONFESSED of 3 on DAY 6 lights by 12, 10, 8, 6, 6: half of it is 6, 11, 15, 18, 21 together.
        OvenLies same = Towns.with(Towns.lies(4, 3), 2);
        same.days(6);
        few("five of one LIE", same, 0, 0, 0, 0, 0, 0);
        OvenLies less = Towns.with(Towns.lies(4, 2), 2);
        less.days(6);
        edges.is("10, 8, 6, 6, 6: 18 by halves", less.few(0, -1), -6);

        edges.sentence("17", "KNOWN to one more by each, 9 at most");
        few("18 and 16", Towns.with(Towns.lies(0, 9), 0), 0, 0, 0);
        OvenLies known = Towns.knownTo(4, 9, 9);
        known.days(6);
        known.oven(0);
        few("by 9 it is 6 each", known, 1, 0, 0, 0, 0);

        OvenLies last = Towns.with(Towns.lies(0, 1, 0, 1, 0, 1, 0, 1, 0, 1, 0, 1, 0, 9), 0, 0);
        for (int i = 0; i < 5; i++) last.says(6, 1);
        few("2 of any, then 8, 6, 4 of the last one, KNOWN to 5", last, 0, 0, 6, 6, 6);

        edges.sentence("17", "by what is now: each time anew");
        OvenLies anew = Towns.with(Towns.lies(5, 9, 0, 9), 0);
        few("on DAY 0: 44", anew, 0, 0);
        anew.days(1);
        few("on DAY 1: 22", anew, 0, 0);
        anew.says(0, 0);
        anew.days(3);
        few("1 and 16", anew, 0, 0, 0);
        anew.forgets(0);
        few("1 and 22", anew, 0, 0);

        edges.sentence("17", "an OVEN takes by the HEAT that it has by then");
        few("OLD: 12, then 11", Towns.with(Towns.lies(0, 9), 4), 0, 0, 0);
        few("OLD: 9, 8, 7 less 1", Towns.with(Towns.lies(2, 9), 4), 0, 0, 0, 0);
        few("OLD: 12, then 9 less 1", Towns.with(Towns.lies(0, 6, 2, 9), 4), 0, 0, 0);
        few("OLD: 12, then 8 less 1; but 8, then 12", Towns.with(Towns.lies(1, 4, 0, 4), 4), 0, 1, 0);

        edges.sentence("17", "the first such row (LIES rising)");
        few("10 and 10, as 10 and 8 are too few", Towns.with(Towns.lies(0, 5, 0, 5, 0, 5), 0), 0, 0, 1);
        few("the last one of 7", Towns.with(Towns.lies(0, 1, 0, 1, 0, 1, 0, 1, 0, 1, 0, 1, 5, 9), 0), 0, 6);
        few("12 and 10, as 12 and 0, 10 and 8 are too few", Towns.with(Towns.lies(0, 1, 5, 1, 0, 5), 0), 0, 1, 2);
        few("the fewest go ahead of the least", Towns.with(Towns.lies(0, 9, 1, 8), 0), 0, 1);
    }

    private static void fewRefused() {
        edges.sentence("17", "-5: not so many");
        edges.asks("HOT already, the first", () -> Towns.ofHeat(20), s -> s.few(0, 0), -5);
        edges.asks("HOT already, the last", () -> Towns.ofHeat(20), s -> s.few(0, MAX), -5);
        edges.asks("one, the first", () -> Towns.with(Towns.lies(5, 9), 0), s -> s.few(0, 0), 0);
        edges.asks("one, the second", () -> Towns.with(Towns.lies(5, 9), 0), s -> s.few(0, 1), -5);
        edges.asks("two, the second", () -> Towns.with(Towns.lies(0, 9), 0), s -> s.few(0, 1), 0);
        edges.asks("two, the third", () -> Towns.with(Towns.lies(0, 9), 0), s -> s.few(0, 2), -5);
        OvenLies five = Towns.with(Towns.lies(2, 4, 2, 4, 2, 4, 2, 4, 2, 4), 0);
        edges.is("five, the fifth", five.few(0, 4), 4);
        edges.is("five, the sixth", five.few(0, 5), -5);
        edges.is("five, the last that can be asked", five.few(0, MAX), -5);

        edges.sentence("17", "-6: none (whatever k from NONE on is)");
        for (int k : new int[] {-1, 0, 1, 4, 5, MAX}) {
            edges.asks("k " + k + ", 2 by each at most", () -> Towns.with(Towns.lies(0, 1), 0), s -> s.few(0, k), -6);
            edges.asks("k " + k + ", no LIES", () -> Towns.with(Towns.lies(), 0), s -> s.few(0, k), -6);
        }

        edges.sentence("17", "BAD: -10: k below -1, too");
        edges.refused("k -2", Towns::some, s -> s.few(0, -2), -10, Edges.BAD);
        edges.refused("k MIN", Towns::some, s -> s.few(0, MIN), -10, Edges.BAD);
        edges.refused("ahead of -6", () -> Towns.with(Towns.lies(), 0), s -> s.few(0, -2), -10, Edges.BAD);
        edges.refused("ahead of -5", () -> Towns.ofHeat(20), s -> s.few(0, -2), -10, Edges.BAD);
        edges.refused("no such OVEN", () -> Towns.with(Towns.lies(5, 9), 0), s -> s.few(1, -1), -10, Edges.BAD);
    }

    private static void round(String call, OvenLies s, int hot, int heat, int... lies) {
        edges.is(call + ": how many are HOT", s.round(-2), hot);
        edges.is(call + ": how much HEAT", s.round(-1), heat);
        for (int o = 0; o < lies.length; o++) edges.is(call + ": OVEN " + o, s.round(o), lies[o]);
        edges.is(call + ": no such OVEN", s.round(lies.length), -10);
    }

    private static void oneIntoEach() {
        edges.sentence("18", "nothing there yet");
        round("no OVEN", Towns.with(Towns.lies(5, 9)), 0, 0);
        round("no LIE", Towns.with(Towns.lies(), 0, 1, 2, 3, 5), 0, 0, -1, -1, -1, -1, -1);

        edges.sentence("18", "BAD: -10");
        edges.refused("OVEN -3", Towns::full, s -> s.round(-3), -10, Edges.BAD);
        edges.refused("OVEN 5 of 5", Towns::full, s -> s.round(5), -10, Edges.BAD);
        edges.refused("OVEN 0 of none", () -> Towns.with(Towns.lies(5, 9)), s -> s.round(0), -10, Edges.BAD);

        edges.sentence("18", "none (NONE) first, then LIES rising");
        OvenLies hottest = Towns.ofHeat(99);
        hottest.lie(5, 9);
        round("no more than 99", hottest, 1, 99, -1);
        round("by 0 it is no more", Towns.knownTo(0, 1, 1), 0, 2, -1);
        round("CLAY: 12 by any", Towns.with(Towns.lies(0, 9, 0, 9), 1, 1), 0, 24, 0, 0);
        round("18 and 18", Towns.with(Towns.lies(0, 9, 0, 9), 0, 0), 0, 36, 0, 1);
        round("the last of 7, into the last of 5",
            Towns.with(Towns.lies(0, 1, 0, 1, 0, 1, 0, 1, 0, 1, 0, 1, 5, 9), 1, 1, 1, 1, 0), 1, 68, 6, 6, 6, 6, 6);

        edges.sentence("18", "KNOWN to more each time (9 at most)");
        round("18, 16, 14, 12, 10", Towns.with(Towns.lies(0, 9), 0, 0, 0, 0, 0), 0, 70, 0, 0, 0, 0, 0);
        OvenLies nine = Towns.knownTo(4, 9, 9);
        nine.days(6);
        nine.oven(0);
        nine.oven(0);
        round("48 of 90, and 6 each time", nine, 1, 66, 0, 0, 0);

        edges.sentence("18", "so that most OVENS are HOT behind it");
        round("20 and 14", Towns.with(Towns.lies(1, 8), 0, 0), 1, 34, 0, 0);
        // SMALL at 10 is HOT by 22 alone; 18 into it and 22 into the other one would be 60 together.
        OvenLies two = Towns.with(Towns.lies(5, 3, 5, 3), 2, 0);
        two.says(0, 0);
        two.says(1, 1);
        two.lie(1, 9);
        two.lie(0, 8);
        round("21 and 36", two, 2, 57, 2, 2);

        // OVENS 2 and 3 have 12, 6 and 1 each, and all these light by 0 now; SMALL ones take nothing of 1.
        OvenLies nearly = Towns.with(Towns.lies(2, 1, 2, 1, 3, 4, 3, 4, 2, 1, 2, 1), 2, 2, 0, 0);
        for (int o = 2; o <= 3; o++) {
            nearly.says(o, o);
            nearly.says(o, o);
            nearly.says(o + 2, o);
            edges.is("HEAT of OVEN " + o, nearly.about(o, 1), 19);
        }
        round("19 and 1 twice", nearly, 2, 40, -1, -1, 0, 1);

        edges.sentence("18", "of like ones the one with most HEAT together (99 at most)");
        round("20 and 19", Towns.with(Towns.lies(1, 8, 0, 5), 0, 5), 1, 39, 0, 0);
        round("2, 4 and 2: into the last of 5", Towns.with(Towns.lies(0, 1, 0, 2), 0, 0, 0, 0, 0), 0, 8, -1, -1, 0, 1, 1);
        round("2 and 6: into the last two of 5", Towns.with(Towns.lies(0, 1, 1, 1), 0, 0, 0, 0, 0), 0, 8, -1, -1, -1, 0, 1);
        round("1 and 1, a SMALL one between takes nothing", Towns.with(Towns.lies(2, 1, 2, 1), 0, 2, 0), 0, 2, 0, -1, 1);
        round("2, 6 and 12: into the last three of 5", Towns.with(Towns.lies(0, 1, 1, 1, 5, 1), 0, 0, 0, 0, 0), 0, 20, -1,
            -1, 0, 1, 2);
        OvenLies top = Towns.worn(90);
        top.oven(0);
        top.lie(0, 5);
        top.lie(1, 9);
        round("90 and 10, 99 already, 22", top, 3, 220, 3, -1, 4);

        edges.sentence("18", "by what is now: each time anew");
        OvenLies anew = Towns.with(Towns.lies(5, 9), 0, 0, 0, 0, 0);
        round("44, 32, 28, 24, 20", anew, 5, 148, 0, 0, 0, 0, 0);
        anew.days(1);
        round("22, 16, 14, 12, 10", anew, 1, 74, 0, 0, 0, 0, 0);
        anew.town();
        anew.lie(2, 1);
        anew.oven(0);
        anew.oven(0);
        round("1 is more than none, and none comes first", anew, 0, 1, -1, 0);

        edges.sentence("18", "nothing is changed");
        edges.asks("how many", Towns::some, s -> s.round(-2), 2);
        edges.asks("which LIE", Towns::some, s -> s.round(0), Towns.some().round(0));
        edges.asks("how much of a full town", Towns::full, s -> s.round(-1), Towns.full().round(-1));
    }

    private static void keep(String call, OvenLies s, int m, int due) {
        edges.is(call, s.keep(0, m), due);
    }

    private static void keptHot() {
        edges.sentence("19", "KEEP: HOT behind each of the next m DAYS (20 is, 19 is not)");
        // 9 is by two LIES that light by 0 now, 8 by one.
        keep("9 and 18, less 7: 20", wornWith(9, 0, 9), 1, 2);
        keep("8 and 18, less 7: 19", wornWith(8, 0, 9), 1, -1);
        keep("15 and 12, less 7: 20", wornWith(15, 1, 4), 1, Towns.worn(15).count(0));
        keep("then 6, less 7: 19", wornWith(15, 1, 4), 2, -1);
        // CONFESSED of 4 lights by 8, 6, and 4 and 6 on DAY 6.
        OvenLies day4 = Towns.onDay(4);
        day4.oven(0);
        day4.lie(4, 4);
        Towns.heatUp(day4, 0, 19);
        keep("19: 20", day4, 1, 0);
        keep("19: 20, 19", day4, 2, -1);
        keep("19: 20, 19, 22: not HOT between", day4, 3, -1);

        edges.sentence("19", "m (1 .. 9)");
        int weak = Towns.worn(81).count(0);
        keep("81 and 2, less 63: 20", wornWith(81, 0, 1), 9, weak);
        keep("80 and 2, less 63: 19", wornWith(80, 0, 1), 9, -1);
        keep("80 less 56: 24 by nothing", wornWith(80, 0, 1), 8, 0);
        keep("83 less 63: 20 by nothing", wornWith(83, 0, 1), 9, 0);

        edges.sentence("19", "the least LIE that ..");
        keep("1 and 2 do", Towns.with(Towns.lies(0, 1, 5, 9, 5, 9), 0), 1, 1);
        keep("the last of 7", Towns.with(Towns.lies(0, 1, 0, 1, 0, 1, 0, 1, 0, 1, 0, 1, 5, 9), 0), 9, 6);

        edges.sentence("19", "NONE: none");
        edges.asks("no LIES", () -> Towns.with(Towns.lies(), 0), t -> t.keep(0, 1), -1);
        edges.asks("too little by any", () -> Towns.with(Towns.lies(0, 1, 0, 2), 0), t -> t.keep(0, 1), -1);

        edges.sentence("19", "ahead of each DAY, on that DAY");
        OvenLies day6 = Towns.onDay(6);
        day6.oven(0);
        day6.lie(4, 9);
        Towns.heatUp(day6, 0, 3);
        keep("DAY 6: 3 and 24, less 7: 20", day6, 1, 0);
        day6.days(1);
        keep("DAY 7: 18, less 7", day6, 1, -1);

        edges.sentence("19", "DAYS go beyond 9999 in it");
        // COME ABOUT of 5: 14 on DAY 9999, 16 on DAY 10000, then 6, 4, 2, 0: 20, 29, 28, 25, 20, 13.
        OvenLies last = Towns.onLastDay();
        last.oven(0);
        last.lie(5, 5);
        Towns.heatUp(last, 0, 13);
        keep("one DAY", last, 1, 0);
        keep("five DAYS", last, 5, 0);
        keep("six DAYS", last, 6, -1);

        edges.sentence("19", "nothing is changed");
        edges.asks("one that does", Towns::some, s -> s.keep(0, 9), 0);
        edges.asks("none that does", Towns::some, s -> s.keep(2, 9), -1);
    }

    public static void main(String[] args) {
        wouldTake();
        thenAndCold();
        fewest();
        fewRefused();
        oneIntoEach();
        keptHot();
        edges.end();
    }
}
