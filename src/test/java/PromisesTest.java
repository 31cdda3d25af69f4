/* Each promise of the document by itself: ordinary numbers, the edges that it names, and wrong numbers. */
public final class PromisesTest {
    private static final Due due = new Due();

    private static OvenLies with(int[] lies, int[] ovens) {
        OvenLies s = new OvenLies();
        for (int i = 0; i + 1 < lies.length; i += 2) s.lie(lies[i], lies[i + 1]);
        for (int kind : ovens) s.oven(kind);
        return s;
    }

    private static int read(OvenLies s, String text) {
        s.clear();
        for (int i = 0; i < text.length(); i++) s.type(text.charAt(i));
        return s.read();
    }

    private static void refused(String name, OvenLies s, int bad, int no, int full) {
        due.is(name + ": BAD so often", s.status(0), bad);
        due.is(name + ": NO so often", s.status(1), no);
        due.is(name + ": FULL so often", s.status(2), full);
    }

    /* A call that is refused changes nothing but STATUS. */
    private static void stays(String name, OvenLies s, long before) {
        due.is(name + ": digest stays", s.digest(), before);
    }

    private static void p01() {
        OvenLies s = new OvenLies();
        for (int what = 0; what <= 9; what++) due.is("1 count", s.count(what), 0);
        due.is("1 above", s.part(0), 0);
        due.is("1 below", s.part(1), 1);
        due.is("1 no image", s.from(0), -3);
        due.is("1 no image", s.from(1), -3);
        due.is("1 no undo", s.undo(), -3);
        refused("1", s, 0, 3, 0);
        OvenLies t = new OvenLies();
        s.lie(0, 5);
        due.is("1 objects are apart", t.count(0), 0);
    }

    private static void p02() {
        OvenLies s = with(new int[] {0, 9, 1, 3}, new int[] {0, 1});
        s.type(65);
        s.trues(0, 1, 3);
        s.image(1);
        s.days(3);
        s.says(0, 0);
        s.seen(0, 0, 0, 0, 0);
        s.note(0, 1, 0, 0, 0);
        s.mark(0, 0, 0, 0);
        s.lie(9, 9);
        due.is("2 town", s.town(), 2);
        for (int what = 0; what <= 8; what++) due.is("2 count " + what, s.count(what), 0);
        due.is("2 THE TEXT stays", s.count(9), 1);
        due.is("2 THE FRACTION stays", s.part(1), 1);
        due.is("2 STATUS stays", s.status(0), 1);
        due.is("2 IMAGES stay", s.from(1), 1);
        due.is("2 from image", s.count(0), 2);
        due.is("2 town again", s.town(), 2);
        due.is("2 empty town", s.town(), 0);
        s.lie(0, 9);
        s.oven(0);
        due.is("2 KNOWN, HEAT are new", s.of(0, 2) * 100 + s.about(0, 1), 0);
    }

    private static void p03() {
        OvenLies s = new OvenLies();
        due.is("3", s.lie(-1, 1), -2);
        due.is("3", s.lie(6, 1), -2);
        due.is("3", s.lie(0, 0), -2);
        due.is("3", s.lie(0, 10), -2);
        due.is("3", s.count(0), 0);
        for (int i = 0; i < 7; i++) due.is("3 number", s.lie(i % 6, i + 1), i);
        long before = s.digest();
        due.is("3 an 8th", s.lie(5, 9), -4);
        due.is("3 BAD ahead of FULL", s.lie(6, 9), -2);
        stays("3", s, before);
        refused("3", s, 5, 0, 1);
        due.is("3 KIND", s.of(5, 0), 5);
        due.is("3 UNTRUTH", s.of(5, 1), 6);
        due.is("3 KNOWN", s.of(5, 2), 0);
        OvenLies t = with(new int[] {0, 9}, new int[] {0});
        t.days(1);
        t.lie(0, 1);
        due.is("3 behind a LIE nothing may be undone", t.undo(), -3);
        t.days(1);
        t.lie(6, 1);
        due.is("3 behind a refused one it may", t.count(8), 1);
    }

    private static void p04() {
        OvenLies s = new OvenLies();
        due.is("4", s.oven(-1), -2);
        due.is("4", s.oven(6), -2);
        for (int i = 0; i < 5; i++) due.is("4 number", s.oven(5 - i), i);
        long before = s.digest();
        due.is("4 a 6th", s.oven(0), -4);
        due.is("4 BAD ahead of FULL", s.oven(6), -2);
        stays("4", s, before);
        refused("4", s, 3, 0, 1);
        due.is("4 KIND", s.about(1, 0), 4);
        due.is("4 HEAT", s.about(1, 1), 0);
        OvenLies t = with(new int[] {0, 9}, new int[] {0});
        t.says(0, 0);
        t.oven(0);
        due.is("4 behind an OVEN nothing may be undone", t.count(8), 0);
        due.is("4 HEAT of the others stays", t.about(0, 1), 18);
    }

    private static void p05() {
        OvenLies s = new OvenLies();
        due.is("5", s.type(-1), -2);
        due.is("5", s.type(128), -2);
        due.is("5", s.type(0), 1);
        due.is("5", s.type(127), 2);
        for (int i = 3; i <= 150; i++) due.is("5", s.type(32), i);
        due.is("5", s.type(32), -4);
        due.is("5 BAD ahead of FULL", s.type(128), -2);
        due.is("5", s.count(9), 150);
        refused("5", s, 3, 0, 1);
    }

    private static void p06() {
        OvenLies s = new OvenLies();
        due.is("6", s.clear(), 0);
        s.type(97);
        s.type(98);
        due.is("6", s.clear(), 2);
        due.is("6", s.clear(), 0);
        due.is("6", s.count(9), 0);
        due.is("6", s.type(99), 1);
    }

    private static void p07() {
        OvenLies s = new OvenLies();
        due.is("7 town alone", read(s, "town;"), 1);
        String text = " town ; lie 1 9;lie 05 6;oven 0;oven5;say 0 0;days10;say 1 0;forget 0;say 0 1; ";
        due.is("7", read(s, text), 10);
        due.is("7 LIES", s.count(0), 2);
        due.is("7 OVENS", s.count(1), 2);
        due.is("7 DAY", s.count(3), 10);
        // 22 at first, 70 less in ten DAYS: 0; then COME ABOUT on DAY 10: twice 12 and 4: 32.
        due.is("7 HEAT", s.about(0, 1), 32);
        // FIB known to none again: 22, and 5 more for a WEDDING.
        due.is("7 HEAT", s.about(1, 1), 27);
        due.is("7 KNOWN", s.of(0, 2), 1);
        due.is("7 nothing to undo", s.count(8), 0);
        due.is("7 THE TEXT stays", s.count(9), text.length());
        p07faults();
        p07takesThePlace();
    }

    private static void p07faults() {
        String[] texts = {"", "   ", "town", "town ", "lie 0 1;", ";", "tow;", "towns;", "Town;", "1;", "town;town;",
            "town;x", "town;lie", "town;lie 6 1;", "town;lie 0 0;", "town;lie 0 10;", "town;lie 0 1", "town;lie 0;",
            "town;lie 0 100;", "town;lie 000 1;", "town 7;", "town;oven 6;", "town;oven 0 0;", "town;say 0 0;",
            "town;lie 0 1;say 0 0;", "town;lie 0 1;oven 0;say 0 1;", "town;lie 0 1;oven 0;say 1 0;", "town;forget 0;",
            "town;lie 0 1;forget 1;", "town;days 0;", "town;days 100;", "town;days;", "town;oven 0;;", "town;,",
            "town;days 1,", "town;lie 01;", "town; lie0 1 ;", "town;days-1;", "town;lie 0 1;forget 0;",
            "town;\0", "town\0;", "\0", "town;\t", "town;oven 0\n;", "town;lie 0 1;zay", "town;day 1;", "town;says 0 0;"};
        int[] due07 = {0, 3, 4, 5, 0, 0, 0, 0, 0, 0, 5,
            5, 8, 9, 11, 11, 12, 10,
            11, 9, 5, 10, 12, 9,
            19, 26, 24, 12,
            20, 10, 10, 9, 12, 5,
            11, 11, -1, 9, -1,
            5, 4, 0, 5, 11, 13, 5, 5};
        for (int i = 0; i < texts.length; i++) {
            OvenLies s = with(new int[] {0, 9}, new int[] {0});
            long got = read(s, texts[i]);
            if (due07[i] < 0) {
                due.is("7 <" + texts[i] + "> is no fault", got >= 1 ? 1 : 0, 1);
            } else {
                due.is("7 <" + texts[i] + ">", got, -10 - due07[i]);
                due.is("7 all stays", s.of(0, 1), 9);
                due.is("7 all stays", s.count(0) * 10 + s.count(1), 11);
            }
            refused("7", s, 0, 0, 0);
        }
        OvenLies s = new OvenLies();
        due.is("7 an 8th lie", read(s, "town;lie0 1;lie0 1;lie0 1;lie0 1;lie0 1;lie0 1;lie0 1;lie 9 9"), -64);
        due.is("7 a 6th oven", read(s, "town;oven0;oven0;oven0;oven0;oven0; oven 9"), -46);
    }

    private static void p07takesThePlace() {
        OvenLies s = with(new int[] {0, 9}, new int[] {0});
        s.seen(0, 0, 0, 0, 0);
        s.note(0, 1, 0, 0, 0);
        s.mark(0, 0, 0, 0);
        s.image(0);
        s.trues(0, 1, 5);
        s.says(0, 0);
        s.days(1);
        read(s, "town;lie 1 2;oven 3;days 99;");
        due.is("7 SEEN, NOTES, MARKS none", s.count(5) + s.count(6) + s.count(7), 0);
        due.is("7 nothing to undo", s.undo(), -3);
        due.is("7 DAY", s.count(3), 99);
        due.is("7 THE FRACTION stays", s.part(1), 1);
        due.is("7 IMAGES stay", s.from(0), 1);
        due.is("7 from image", s.of(0, 1), 9);
        due.is("7 SEEN of the image", s.count(5), 1);
    }

    private static void p08() {
        OvenLies s = with(new int[] {5, 9}, new int[] {0, 0});
        due.is("8", s.days(0), -2);
        due.is("8", s.days(61), -2);
        due.is("8", s.days(-1), -2);
        s.says(0, 0);
        due.is("8 44, then 37, 30, 23", s.days(3), 1);
        due.is("8 HEAT", s.about(0, 1), 23);
        due.is("8 then 16", s.days(1), 0);
        due.is("8 DAY", s.count(3), 4);
        due.is("8 three that may be undone", s.count(8), 3);
        s.days(60);
        due.is("8 HEAT 0 at least", s.about(0, 1), 0);
        refused("8", s, 3, 0, 0);
        for (int i = 0; i < 166; i++) s.days(60);
        due.is("8 the last DAY", s.count(3), 9999);
        s.lie(4, 9);
        s.says(1, 1);
        due.is("8 none goes by", s.days(5), 0);
        due.is("8 so it is no colder", s.about(1, 1), s.of(1, 3) + 2);
        due.is("8 but one that may be undone", s.count(8), 2);
        due.is("8", s.count(3), 9999);
    }

    private static void p09() {
        OvenLies s = with(new int[] {1, 9, 0, 9}, new int[] {0, 1});
        due.is("9", s.says(2, 0), -2);
        due.is("9", s.says(0, 2), -2);
        due.is("9", s.says(-1, 0), -2);
        due.is("9", s.says(0, -1), -2);
        due.is("9", s.says(0, 0), 22);
        due.is("9 KNOWN to 1: 16", s.says(0, 0), 38);
        due.is("9 KNOWN to 2: 14, CLAY 12", s.says(0, 1), 12);
        due.is("9 KNOWN", s.of(0, 2), 3);
        for (int i = 0; i < 8; i++) s.says(0, 1);
        due.is("9 KNOWN to 9 at most", s.of(0, 2), 9);
        refused("9", s, 4, 0, 0);
        OvenLies t = with(new int[] {5, 9, 5, 9, 5, 9}, new int[] {0});
        t.says(0, 0);
        t.says(1, 0);
        due.is("9 99 at most", t.says(2, 0), 99);
    }

    private static void p10() {
        OvenLies s = with(new int[] {1, 9}, new int[] {0});
        due.is("10", s.forgets(1), -2);
        due.is("10", s.forgets(-1), -2);
        due.is("10", s.forgets(0), -3);
        s.says(0, 0);
        s.says(0, 0);
        due.is("10", s.forgets(0), 2);
        due.is("10", s.of(0, 2), 0);
        due.is("10 HEAT stays", s.about(0, 1), 38);
        due.is("10", s.forgets(0), -3);
        due.is("10 may be undone", s.count(8), 3);
        s.undo();
        due.is("10", s.of(0, 2), 2);
        refused("10", s, 2, 2, 0);
    }

    private static void p11() {
        OvenLies s = with(new int[] {1, 9}, new int[] {0});
        due.is("11", s.undo(), -3);
        s.says(0, 0);
        s.days(2);
        due.is("11 the DAY", s.undo(), 0);
        due.is("11 HEAT", s.about(0, 1), 22);
        due.is("11 KNOWN", s.of(0, 2), 1);
        due.is("11", s.undo(), 0);
        due.is("11 HEAT", s.about(0, 1), 0);
        due.is("11 KNOWN", s.of(0, 2), 0);
        due.is("11", s.undo(), -3);
        refused("11", s, 0, 2, 0);
        for (int i = 1; i <= 10; i++) s.days(i);
        due.is("11 8 at most", s.count(8), 8);
        int[] days = {45, 36, 28, 21, 15, 10, 6, 3};
        for (int day : days) due.is("11 back", s.undo(), day);
        due.is("11 no 9th", s.undo(), -3);
        s.days(1);
        s.seen(0, 1, 1, 1, 1);
        s.forget(0);
        due.is("11 SEEN ones do not count", s.count(8), 1);
    }

    private static void p12() {
        OvenLies s = with(new int[] {0, 9, 1, 9, 2, 9, 3, 9, 4, 9, 5, 9, 0, 1}, new int[] {0});
        int[] day0 = {18, 22, 9, 22, 18, 44, 2};
        for (int l = 0; l < 7; l++) {
            due.is("12 KIND", s.of(l, 0), l % 6);
            due.is("12 UNTRUTH", s.of(l, 1), l == 6 ? 1 : 9);
            due.is("12 LIGHTS", s.of(l, 3), day0[l]);
            s.says(l, 0);
        }
        int[] once = {16, 16, 8, 16, 16, 32, 0};
        for (int l = 0; l < 7; l++) {
            due.is("12 KNOWN", s.of(l, 2), 1);
            due.is("12 LIGHTS, KNOWN to 1", s.of(l, 3), once[l]);
            s.says(l, 0);
        }
        s.days(6);
        int[] twice = {14, 14, 7, 0, 20, 14, 0};
        for (int l = 0; l < 7; l++) due.is("12 LIGHTS on DAY 6, KNOWN to 2", s.of(l, 3), twice[l]);
        s.days(4);
        due.is("12 COME ABOUT on DAY 10", s.of(5, 3), 28);
        due.is("12 CONFESSED on DAY 10", s.of(4, 3), 14);
        due.is("12", s.of(7, 0), -2);
        due.is("12", s.of(-1, 0), -2);
        due.is("12", s.of(0, 4), -2);
        due.is("12", s.of(0, -1), -2);
        refused("12", s, 4, 0, 0);
    }

    private static void p13() {
        OvenLies s = with(new int[] {0, 9, 0, 1, 0, 9}, new int[] {0, 3});
        due.is("13 KIND", s.about(1, 0), 3);
        s.says(0, 0);
        due.is("13 HEAT", s.about(0, 1), 18);
        due.is("13 not HOT", s.about(0, 2), 0);
        s.says(1, 0);
        due.is("13 HOT from 20 on", s.about(0, 2), 1);
        due.is("13", s.about(2, 0), -2);
        due.is("13", s.about(-1, 0), -2);
        due.is("13", s.about(0, 3), -2);
        due.is("13", s.about(0, -1), -2);
        refused("13", s, 4, 0, 0);
    }

    private static void p14() {
        OvenLies s = with(new int[] {5, 9, 0, 1, 0, 5, 2, 9, 0, 4}, new int[] {0, 1, 2, 3, 5});
        int[] of44 = {44, 12, 22, 26, 49};
        int[] of2 = {2, 2, 1, 5, 2};
        int[] of10 = {10, 10, 5, 9, 15};
        int[] of9 = {9, 9, 4, 8, 9};
        for (int o = 0; o < 5; o++) {
            due.is("14 of 44", s.takes(o, 0), of44[o]);
            due.is("14 of 2", s.takes(o, 1), of2[o]);
            due.is("14 of 10", s.takes(o, 2), of10[o]);
            due.is("14 of 9", s.takes(o, 3), of9[o]);
        }
        s.says(1, 0);
        for (int o = 0; o < 5; o++) due.is("14 of 0", s.takes(o, 1), 0);
        s.says(0, 0);
        s.says(0, 0);
        s.says(0, 0);
        due.is("14 HEAT", s.about(0, 1), 99);
        due.is("14 above 99 too", s.takes(0, 2), 10);
        due.is("14", s.takes(5, 0), -2);
        due.is("14", s.takes(0, 5), -2);
        due.is("14", s.takes(-1, 0), -2);
        due.is("14", s.takes(0, -1), -2);
        refused("14", s, 4, 0, 0);
        OvenLies old = with(new int[] {5, 9, 5, 9, 0, 1}, new int[] {4});
        due.is("14 OLD", old.takes(0, 0), 12);
        old.says(0, 0);
        due.is("14 OLD of HEAT 12", old.takes(0, 1), 11);
        due.is("14 OLD of HEAT 12, of 2", old.takes(0, 2), 1);
        old.says(1, 0);
        due.is("14 OLD of HEAT 23, of 2", old.takes(0, 2), 0);
        old.says(0, 0);
        due.is("14 OLD 0 at least", old.takes(0, 2), 0);
    }

    private static void p15() {
        OvenLies s = with(new int[] {0, 9, 0, 1}, new int[] {0});
        s.says(0, 0);
        s.says(1, 0);
        due.is("15", s.then(0, 0), 20);
        due.is("15", s.then(0, 1), 13);
        due.is("15", s.then(0, 2), 6);
        due.is("15 0 at least", s.then(0, 3), 0);
        due.is("15", s.then(0, 60), 0);
        due.is("15 nothing is changed", s.count(3), 0);
        due.is("15", s.then(0, 61), -2);
        due.is("15", s.then(0, -1), -2);
        due.is("15", s.then(1, 0), -2);
        due.is("15", s.then(-1, 0), -2);
        refused("15", s, 4, 0, 0);
    }

    private static void p16() {
        OvenLies s = with(new int[] {5, 9, 5, 9, 5, 9, 0, 1}, new int[] {0, 0});
        due.is("16 not HOT now", s.cold(0), 0);
        s.says(0, 0);
        due.is("16 44: 37, 30, 23, 16", s.cold(0), 4);
        s.says(1, 0);
        s.says(2, 0);
        due.is("16 99: 12 DAYS: 15", s.cold(0), 12);
        s.days(11);
        due.is("16 22", s.cold(0), 1);
        s.says(3, 1);
        due.is("16", s.cold(1), 0);
        due.is("16", s.cold(2), -2);
        due.is("16", s.cold(-1), -2);
        refused("16", s, 2, 0, 0);
    }

    private static void p17() {
        OvenLies s = with(new int[] {0, 2, 2, 9, 1, 8}, new int[] {0, 1, 2, 0});
        due.is("17 FIB of 8 by itself: 20", s.few(0, -1), 1);
        due.is("17", s.few(0, 0), 2);
        due.is("17 not so many", s.few(0, 1), -5);
        // CLAY: 9 of NEIGHBOUR'S, then 12; 4 of PLAIN is too little.
        due.is("17 two", s.few(1, -1), 2);
        due.is("17 first", s.few(1, 0), 1);
        due.is("17 second", s.few(1, 1), 2);
        due.is("17 third", s.few(1, 2), -5);
        // SMALL: 10, 7, then 6 (by then KNOWN to 2): 23; 10, 7 and 2, 10, 4 and 7 are the other threes.
        due.is("17 three", s.few(2, -1), 3);
        due.is("17 4 of NEIGHBOUR'S, 10, 7", s.few(2, 0) * 100 + s.few(2, 1) * 10 + s.few(2, 2), 122);
        s.says(2, 3);
        due.is("17 HOT: none", s.few(3, -1), 0);
        due.is("17", s.few(3, 0), -5);
        due.is("17", s.few(4, 0), -10);
        due.is("17", s.few(-1, 0), -10);
        due.is("17", s.few(0, -2), -10);
        due.is("17", s.few(0, Integer.MAX_VALUE), -5);
        refused("17", s, 3, 0, 0);
        OvenLies known = with(new int[] {0, 9, 0, 8}, new int[] {0, 0});
        for (int i = 0; i < 5; i++) known.says(0, 1);
        due.is("17 KNOWN to 5: 8, then 16", known.few(0, -1), 2);
        due.is("17 8 and 16", known.few(0, 0) * 10 + known.few(0, 1), 1);
        OvenLies poor = with(new int[] {0, 1}, new int[] {0});
        due.is("17 none", poor.few(0, -1), -6);
        due.is("17 none", poor.few(0, 3), -6);
        due.is("17 BAD ahead of none", poor.few(0, -2), -10);
        p17fives();
    }

    private static void p17fives() {
        // NEIGHBOUR'S of 4: 4 at first, then 3: HOT by five, if each is another.
        int[] fours = {2, 4, 2, 4, 2, 4, 2, 4, 2, 4};
        OvenLies five = with(fours, new int[] {0});
        due.is("17 five", five.few(0, -1), 5);
        for (int k = 0; k < 5; k++) due.is("17 five", five.few(0, k), k);
        due.is("17 five", five.few(0, 5), -5);
        OvenLies four = with(new int[] {2, 4, 2, 4, 2, 4, 2, 4}, new int[] {0});
        due.is("17 a sixth would be needed", four.few(0, -1), -6);
        // OLD: 12, then FIB of 4 is 6 and PLAIN of 4 is 8, each less 1; but 8 ahead of 12 takes nothing off.
        OvenLies old = with(new int[] {1, 4, 0, 4}, new int[] {4});
        due.is("17 OLD", old.few(0, -1), 2);
        due.is("17 OLD: 8", old.few(0, 0), 1);
        due.is("17 OLD: then 12", old.few(0, 1), 0);
    }

    private static void p18() {
        OvenLies s = new OvenLies();
        due.is("18 nothing there", s.round(-2), 0);
        due.is("18 nothing there", s.round(-1), 0);
        due.is("18", s.round(0), -10);
        due.is("18", s.round(-3), -10);
        refused("18", s, 2, 0, 0);
        // FIB of 9: 22 at first, then 16; PLAIN of 9: 18; the SMALL one can not be HOT: it gets what is left.
        OvenLies t = with(new int[] {1, 9, 0, 9}, new int[] {0, 2});
        due.is("18", t.round(-2), 1);
        due.is("18 22 and 9", t.round(-1), 31);
        due.is("18", t.round(0), 0);
        due.is("18", t.round(1), 1);
        // Only one of two can be HOT by FIB: the first that gets it is the second one's turn if NONE came first.
        OvenLies u = with(new int[] {3, 8}, new int[] {0, 0});
        due.is("18", u.round(-2), 1);
        due.is("18 20 and 14", u.round(-1), 34);
        due.is("18", u.round(0) * 10 + u.round(1), 0);
        // No heat by anything: NONE for each is the first way.
        OvenLies v = with(new int[] {0, 1}, new int[] {2, 4});
        v.says(0, 0);
        due.is("18 NONE comes first", v.round(0), -1);
        due.is("18 NONE comes first", v.round(1), -1);
        due.is("18 HEAT of all", v.round(-1), 1);
        due.is("18 nothing is changed", v.of(0, 2), 1);
        due.is("18", v.round(2), -10);
        // More HOT ones go ahead of more HEAT.
        OvenLies w = with(new int[] {1, 8, 0, 3}, new int[] {5, 0});
        due.is("18 one HOT", w.round(-2), 1);
        due.is("18 25 and 14", w.round(-1), 39);
        OvenLies y = with(new int[] {1, 8, 0, 9, 0, 1}, new int[] {0, 5});
        due.is("18 20 and 23", y.round(-2), 2);
        due.is("18 20 and 23", y.round(-1), 43);
        due.is("18", y.round(0) * 10 + y.round(1), 1);
    }

    private static void p19() {
        OvenLies s = with(new int[] {0, 9, 1, 9, 5, 9}, new int[] {0, 2});
        due.is("19 18 less 7, 22 less 7, 44 less 7", s.keep(0, 1), 2);
        // 37, then 16 more: 46, then 14 more: 53.
        due.is("19", s.keep(0, 3), 2);
        due.is("19", s.keep(0, 9), 2);
        due.is("19 SMALL: 22 less 7", s.keep(1, 1), -1);
        s.says(0, 0);
        due.is("19 18, 16 more, less 7", s.keep(0, 1), 0);
        due.is("19 27, then 34, 39, 42, 43, 42, 39, 34, 27", s.keep(0, 9), 0);
        due.is("19 nothing is changed", s.about(0, 1), 18);
        due.is("19", s.keep(0, 0), -2);
        due.is("19", s.keep(0, 10), -2);
        due.is("19", s.keep(2, 1), -2);
        due.is("19", s.keep(-1, 1), -2);
        refused("19", s, 4, 0, 0);
        // A CONFESSED one lights 6 more on DAY 6.
        OvenLies t = with(new int[] {4, 9, 1, 9}, new int[] {0});
        t.days(5);
        t.says(1, 0);
        due.is("19 22 and 18, less 7: 33", t.keep(0, 1), 0);
        OvenLies u = with(new int[] {2, 9, 4, 9}, new int[] {0, 0});
        u.days(5);
        u.says(1, 0);
        due.is("19 18 and 9, less 7: 20", u.keep(0, 1), 0);
        due.is("19 then 20 and 8, less 7: 21", u.keep(0, 2), 0);
        due.is("19 then 21, 20, 18", u.keep(0, 4), 0);
        due.is("19 CONFESSED instead", u.keep(0, 5), 1);
        // 23 and 4, less 7: 20; then 2 and 6 more on DAY 6: 21; then none: 14.
        OvenLies v = with(new int[] {4, 2, 0, 9, 2, 5}, new int[] {0});
        v.days(5);
        v.says(1, 0);
        v.says(2, 0);
        due.is("19 DAYS go by in it", v.keep(0, 2), 0);
        due.is("19 PLAIN KNOWN to 1 instead", v.keep(0, 3), 1);
    }

    private static void p20() {
        OvenLies s = with(new int[] {0, 9}, new int[] {0});
        int[][] bads = {{-1, 0, 0, 0, 0}, {1, 0, 0, 0, 0}, {0, -1, 0, 0, 0}, {0, 100, 0, 0, 0}, {0, 0, -1, 0, 0},
            {0, 0, 10, 0, 0}, {0, 0, 0, -1, 0}, {0, 0, 0, 100, 0}, {0, 0, 0, 0, -1}, {0, 0, 0, 0, 61}};
        for (int[] n : bads) due.is("20", s.seen(n[0], n[1], n[2], n[3], n[4]), -2);
        for (int i = 1; i <= 5; i++) due.is("20", s.seen(0, 99, 9, 99, 60), i);
        long before = s.digest();
        due.is("20 a 6th", s.seen(0, 0, 0, 0, 0), -4);
        due.is("20 BAD ahead of FULL", s.seen(0, 0, 0, 0, 61), -2);
        stays("20", s, before);
        due.is("20", s.count(5), 5);
        refused("20", s, 11, 0, 1);
    }

    private static void p21() {
        OvenLies s = with(new int[] {0, 9, 1, 9, 1, 7, 3, 9, 4, 6}, new int[] {0, 1, 4});
        due.is("21 none SEEN: all", s.which(), 31);
        s.seen(0, 99, 0, 1, 18);
        due.is("21 18 of PLAIN 9, FIB 7", s.which(), 5);
        s.seen(1, 0, 0, 1, 12);
        due.is("21 CLAY took 12", s.which(), 5);
        s.seen(0, 0, 1, 1, 12);
        due.is("21 FIB 7, KNOWN to 1", s.which(), 4);
        s.forget(0);
        s.seen(0, 0, 0, 6, 18);
        due.is("21 on DAY 6: CONFESSED of 6 too", s.which(), 21);
        s.forget(0);
        s.seen(2, 45, 0, 0, 8);
        due.is("21 OLD of HEAT 45: 12 less 4", s.which(), 31);
        s.seen(0, 0, 2, 0, 0);
        due.is("21 HILL KNOWN to 2", s.which(), 8);
        due.is("21 no LIES", new OvenLies().which(), 0);
    }

    private static void p22() {
        OvenLies s = with(new int[] {0, 9, 1, 7, 4, 6}, new int[] {0, 1});
        // PLAIN 18, FIB 18, CONFESSED 12 at first; KNOWN to 1 on DAY 0: 16, 12, 10: apart.
        due.is("22", s.tell(0), 1);
        due.is("22 CLAY: 12, 12, 12; KNOWN to 1: 12, 12, 10; KNOWN to 2: 12, 10, 8", s.tell(1), 2);
        s.seen(0, 0, 0, 6, 18);
        due.is("22 all of them still", s.tell(0), 1);
        s.seen(0, 0, 0, 0, 18);
        due.is("22 of two", s.tell(1), 2);
        s.seen(0, 0, 0, 0, 17);
        due.is("22 no LIE", s.tell(0), -1);
        OvenLies t = with(new int[] {0, 5, 4, 5, 0, 5}, new int[] {0});
        // Apart on DAY 6 alone: two of them are alike on every DAY.
        due.is("22 DAY 6", t.tell(0), 60);
        OvenLies u = with(new int[] {1, 9, 5, 9}, new int[] {0});
        due.is("22 twice on DAY 0", u.tell(0), 0);
        due.is("22 of like ones the least", with(new int[] {0, 9}, new int[] {0}).tell(0), 0);
        due.is("22 none there", with(new int[] {}, new int[] {0}).tell(0), -1);
        due.is("22", s.tell(2), -2);
        due.is("22", s.tell(-1), -2);
        refused("22", s, 2, 0, 0);
    }

    private static void p23() {
        OvenLies s = with(new int[] {0, 9}, new int[] {});
        int[][] bads = {{-1, 1, 0, 0, 0}, {1, 1, 0, 0, 0}, {0, 0, 0, 0, 0}, {0, 10, 0, 0, 0}, {0, 1, -1, 0, 0},
            {0, 1, 10, 0, 0}, {0, 1, 0, -1, 0}, {0, 1, 0, 100, 0}, {0, 1, 0, 0, -1}, {0, 1, 0, 0, 61}};
        for (int[] n : bads) due.is("23", s.note(n[0], n[1], n[2], n[3], n[4]), -2);
        for (int i = 1; i <= 6; i++) due.is("23", s.note(0, 9, 9, 99, 60), i);
        long before = s.digest();
        due.is("23 a 7th", s.note(0, 1, 0, 0, 0), -4);
        due.is("23 BAD ahead of FULL", s.note(0, 0, 0, 0, 0), -2);
        stays("23", s, before);
        refused("23", s, 11, 0, 1);
    }

    private static void p24() {
        OvenLies s = with(new int[] {}, new int[] {0});
        int[][] bads = {{-1, 0, 0, 0}, {1, 0, 0, 0}, {0, -1, 0, 0}, {0, 100, 0, 0}, {0, 0, -1, 0}, {0, 0, 61, 0},
            {0, 0, 0, -1}, {0, 0, 0, 61}};
        for (int[] n : bads) due.is("24", s.mark(n[0], n[1], n[2], n[3]), -2);
        for (int i = 1; i <= 6; i++) due.is("24", s.mark(0, 99, 60, 60), i);
        long before = s.digest();
        due.is("24 a 7th", s.mark(0, 0, 0, 0), -4);
        due.is("24 BAD ahead of FULL", s.mark(1, 0, 0, 0), -2);
        stays("24", s, before);
        refused("24", s, 9, 0, 1);
    }

    private static void p25() {
        OvenLies s = with(new int[] {0, 9}, new int[] {0});
        s.seen(0, 0, 0, 0, 0);
        s.note(0, 1, 0, 0, 0);
        s.note(0, 1, 0, 0, 0);
        s.mark(0, 0, 0, 0);
        s.mark(0, 0, 0, 0);
        s.mark(0, 0, 0, 0);
        due.is("25", s.forget(1), 2);
        due.is("25", s.count(5) * 100 + s.count(6) * 10 + s.count(7), 103);
        due.is("25", s.forget(2), 3);
        due.is("25", s.count(5) * 100 + s.count(6) * 10 + s.count(7), 100);
        due.is("25", s.forget(0), 1);
        due.is("25", s.forget(0), 0);
        due.is("25", s.forget(3), -2);
        due.is("25", s.forget(-1), -2);
        refused("25", s, 2, 0, 0);
    }

    private static void p26() {
        OvenLies s = with(new int[] {0, 9, 1, 9}, new int[] {0});
        due.is("26 all", s.is(0), 63);
        s.note(0, 5, 0, 1, 14);
        due.is("26 FIB, HILL, COME ABOUT", s.is(0), 2 + 8 + 32);
        due.is("26 the other's are its own", s.is(1), 63);
        s.note(0, 5, 0, 20, 14);
        due.is("26 FIB, HILL", s.is(0), 2 + 8);
        s.note(0, 5, 2, 1, 0);
        due.is("26 HILL", s.is(0), 8);
        s.note(1, 9, 0, 6, 24);
        due.is("26 CONFESSED", s.is(1), 16);
        s.note(1, 9, 0, 5, 9);
        due.is("26 none of them", s.is(1), 0);
        s.forget(1);
        s.note(1, 9, 0, 5, 9);
        due.is("26 NEIGHBOUR'S", s.is(1), 4);
        due.is("26", s.is(2), -2);
        due.is("26", s.is(-1), -2);
        refused("26", s, 2, 0, 0);
    }

    private static void p27() {
        OvenLies s = with(new int[] {0, 9}, new int[] {0});
        // At first on DAY 0: PLAIN and CONFESSED 18, FIB and HILL 22, NEIGHBOUR'S 9, COME ABOUT 44: two at most.
        due.is("27", s.look(0), 0);
        s.note(0, 5, 0, 1, 14);
        // Of FIB, HILL, COME ABOUT, KNOWN to 2: 14, 0, and 28 on DAY 0.
        due.is("27", s.look(0), 200);
        s.note(0, 5, 0, 20, 14);
        due.is("27 HILL is 0 then", s.look(0), 200);
        s.forget(1);
        s.note(0, 5, 1, 1, 8);
        s.note(0, 5, 0, 0, 10);
        due.is("27 PLAIN, CONFESSED: DAY 6", s.look(0), 6);
        s.note(0, 1, 0, 0, 60);
        due.is("27 no KIND", s.look(0), -1);
        due.is("27", s.look(1), -2);
        due.is("27", s.look(-1), -2);
        refused("27", s, 2, 0, 0);
        // UNTRUTH 1, KNOWN to 1 or more, is 0 for most: at first is best.
        OvenLies t = with(new int[] {0, 1}, new int[] {});
        t.note(0, 9, 3, 10, 12);
        due.is("27 PLAIN, FIB, CONFESSED: 2, 6, 8", t.look(0), 6);
    }

    private static void p28() {
        OvenLies s = with(new int[] {}, new int[] {0, 1});
        due.is("28 all", s.kinds(0), 63);
        s.mark(0, 0, 12, 12);
        due.is("28 PLAIN, CLAY, OLD", s.kinds(0), 1 + 2 + 16);
        due.is("28 the other's are its own", s.kinds(1), 63);
        s.mark(0, 9, 20, 12);
        due.is("28 CLAY, OLD", s.kinds(0), 2 + 16);
        s.mark(0, 10, 20, 11);
        due.is("28 OLD", s.kinds(0), 16);
        s.mark(1, 50, 9, 4);
        due.is("28 SMALL, OLD", s.kinds(1), 4 + 16);
        s.mark(1, 50, 8, 8);
        due.is("28 none of them", s.kinds(1), 0);
        s.forget(2);
        s.mark(1, 0, 10, 15);
        due.is("28 WEDDING", s.kinds(1), 32);
        s.mark(0, 0, 1, 4);
        due.is("28 PRIEST'S", s.kinds(0), 8);
        due.is("28", s.kinds(2), -2);
        due.is("28", s.kinds(-1), -2);
        refused("28", s, 2, 0, 0);
    }

    private static void p29() {
        OvenLies s = with(new int[] {5, 9}, new int[] {0, 0});
        // 13: PLAIN 13, CLAY 12, SMALL 6, PRIEST'S 10, OLD 12, WEDDING 18: CLAY and OLD alone.
        due.is("29", s.ask(0), 13);
        s.says(0, 1);
        // HEAT 44: OLD 4 less: at 5 it is 1, but PLAIN, CLAY, WEDDING are alike up to 9; 13: 13, 12, 6, 10, 8, 18.
        due.is("29 HEAT as it is", s.ask(1), 13);
        s.mark(1, 0, 9, 9);
        // PLAIN, CLAY, OLD, WEDDING: 13, 12, 8, 18, but 10 is first: 10, 10, 6, 15: two; 13: one.
        due.is("29", s.ask(1), 13);
        s.mark(1, 0, 13, 12);
        due.is("29 CLAY, OLD: 1 and 0", s.ask(1), 1);
        s.mark(1, 0, 13, 13);
        due.is("29 no KIND", s.ask(1), -1);
        s.mark(0, 0, 1, 4);
        due.is("29 one KIND: the least", s.ask(0), 0);
        due.is("29", s.ask(2), -2);
        due.is("29", s.ask(-1), -2);
        refused("29", s, 2, 0, 0);
    }

    private static void p30() {
        OvenLies s = with(new int[] {0, 9, 1, 3, 1, 9}, new int[] {0, 1});
        // 18, 10, 22: the best one for one of them, the next one for the other.
        due.is("30", s.arch(0, -1), 2);
        due.is("30", s.arch(0, 0), 2);
        due.is("30", s.arch(0, 1), 20);
        due.is("30 not so many", s.arch(0, 2), -5);
        // CLAY: 12, 10, 12.
        due.is("30", s.arch(1, -1), 2);
        due.is("30", s.arch(1, 0), 2);
        s.says(2, 0);
        s.says(2, 0);
        s.says(2, 0);
        // PLAIN 18, FIB of 3 is 10, FIB of 9, KNOWN to 3: 12 less 3 is 9.
        due.is("30 KNOWN to 3", s.arch(0, 0), 1);
        due.is("30 KNOWN to 3", s.arch(0, 1), 10);
        due.is("30", s.arch(2, 0), -10);
        due.is("30", s.arch(-1, 0), -10);
        due.is("30", s.arch(0, -2), -10);
        refused("30", s, 3, 0, 0);
        OvenLies one = with(new int[] {0, 1}, new int[] {0});
        due.is("30 one LIE: it goes out", one.arch(0, -1), 1);
        due.is("30 one LIE", one.arch(0, 0), 0);
        due.is("30 no LIE", with(new int[] {}, new int[] {0}).arch(0, -1), 0);
        OvenLies alike = with(new int[] {0, 9, 0, 9, 0, 9}, new int[] {0});
        due.is("30 all but the same", alike.arch(0, -1), 6);
        due.is("30 rising", alike.arch(0, 3), 12);
        // A LIE of 1, KNOWN to 3, brings -3, as much as if it goes out; KNOWN to 4 it brings less.
        OvenLies worn = with(new int[] {0, 1, 0, 1}, new int[] {0});
        for (int i = 0; i < 3; i++) worn.says(0, 0);
        due.is("30 all but 00", worn.arch(0, -1), 3);
        due.is("30 11 rests", worn.arch(0, 2), 11);
        for (int i = 0; i < 3; i++) worn.says(1, 0);
        due.is("30 -3 everywhere", worn.arch(0, -1), 4);
        worn.says(0, 0);
        due.is("30 00 and 11", worn.arch(0, -1), 2);
        due.is("30 00 rests", worn.arch(0, 0), 0);
        due.is("30 11 rests", worn.arch(0, 1), 11);
    }

    private static void p31() {
        OvenLies s = with(new int[] {0, 9, 1, 9, 0, 5, 2, 9}, new int[] {0, 4});
        due.is("31", s.trues(0, 2, 3), 1);
        due.is("31 22: 7 of 10", s.part(0) * 100 + s.part(1), 710);
        s.trues(0, 5, 5);
        due.is("31 18 and 10, both needed: 1 of 4", s.part(0) * 100 + s.part(1), 104);
        s.trues(0, 7, 4);
        // FIB by itself (6 of 10), or PLAIN of 9 and of 5 (4 of 10 by 36 of 100): 600 and 144 of 1000.
        due.is("31 93 of 125", s.part(0) * 1000 + s.part(1), 93125);
        s.trues(0, 15, 0);
        due.is("31 surely", s.part(0) * 100 + s.part(1), 101);
        s.trues(0, 15, 10);
        due.is("31 not", s.part(0) * 100 + s.part(1), 1);
        s.trues(0, 0, 5);
        due.is("31 none told", s.part(0) * 100 + s.part(1), 1);
        // OLD: 12 of PLAIN, then 9 less 1 of NEIGHBOUR'S: 20; both needed.
        s.trues(1, 9, 1);
        due.is("31 OLD", s.part(0) * 1000 + s.part(1), 81100);
        due.is("31 nobody more KNOWS it", s.of(0, 2), 0);
        due.is("31 HEAT stays", s.about(1, 1), 0);
        due.is("31", s.trues(2, 0, 0), -2);
        due.is("31", s.trues(-1, 0, 0), -2);
        due.is("31", s.trues(0, 16, 0), -2);
        due.is("31", s.trues(0, -1, 0), -2);
        due.is("31", s.trues(0, 0, -1), -2);
        due.is("31", s.trues(0, 0, 11), -2);
        due.is("31 THE FRACTION stays", s.part(1), 100);
        refused("31", s, 6, 0, 0);
        s.says(1, 0);
        s.trues(0, 0, 5);
        due.is("31 HOT already", s.part(0) * 100 + s.part(1), 101);
    }

    private static void p32() {
        OvenLies s = with(new int[] {5, 9, 5, 9, 5, 9, 5, 9, 5, 9, 5, 9, 5, 9}, new int[] {0, 0, 0, 0, 0});
        // X is 1103527590 by SEED 1: by 65536: 16838, LIE 3; by 1048576: 1052, OVEN 2: 44 less 7.
        due.is("32", s.years(1, 1), 1);
        due.is("32 none yet", s.years(1, 0), 0);
        due.is("32 nothing is changed", s.count(3) + s.count(4), 0);
        s.says(0, 4);
        due.is("32 HOT now", s.years(1, 0), 1);
        due.is("32 37 left and 37", s.years(1, 1), 2);
        due.is("32", s.years(-1, 0), -2);
        due.is("32", s.years(1000000, 0), -2);
        due.is("32", s.years(0, -1), -2);
        due.is("32", s.years(0, 61), -2);
        due.is("32 the last ones", s.years(999999, 60) >= 0 ? 1 : 0, 1);
        refused("32", s, 4, 0, 0);
        OvenLies t = with(new int[] {5, 9, 5, 9, 5, 9, 5, 9}, new int[] {0, 0, 0});
        due.is("32 LIE 3, OVEN 2 are there", t.years(1, 1), 1);
        OvenLies u = with(new int[] {5, 9, 5, 9, 5, 9}, new int[] {0, 0, 0});
        due.is("32 LIE 3 is not there", u.years(1, 1), 0);
        OvenLies v = with(new int[] {5, 9, 5, 9, 5, 9, 5, 9}, new int[] {0, 0});
        due.is("32 OVEN 2 is not there", v.years(1, 1), 0);
        OvenLies w = with(new int[] {5, 9, 5, 9, 5, 9, 1, 9}, new int[] {0, 0, 0});
        due.is("32 a DAY goes by: 22 less 7", w.years(1, 1), 0);
        // By SEED 3 (3310558080, less 2147483648, is 1163074432) LIE 17747 is 2 by 7, OVEN 1109 is 4 by 5.
        due.is("32 LIE 2, OVEN 4", with(new int[] {0, 1, 0, 1, 5, 9}, new int[] {0, 0, 0, 0, 0}).years(3, 1), 1);
        due.is("32 OVEN 4 is not there", with(new int[] {0, 1, 0, 1, 5, 9}, new int[] {0, 0, 0, 0}).years(3, 1), 0);
        due.is("32 LIE 2 is not there", with(new int[] {5, 9, 5, 9}, new int[] {0, 0, 0, 0, 0}).years(3, 1), 0);
    }

    private static void p33() {
        OvenLies s = with(new int[] {0, 9, 0, 1}, new int[] {0});
        s.trues(0, 3, 5);
        due.is("33", s.part(0), 1);
        due.is("33", s.part(1), 4);
        due.is("33", s.part(2), -2);
        due.is("33", s.part(-1), -2);
        refused("33", s, 2, 0, 0);
    }

    private static void p34() {
        OvenLies s = with(new int[] {0, 9}, new int[] {0});
        due.is("34", s.image(2), -2);
        due.is("34", s.image(-1), -2);
        due.is("34", s.image(0), 1);
        s.says(0, 0);
        due.is("34", s.image(1), 1);
        s.days(1);
        due.is("34 again", s.image(0), 1);
        s.town();
        s.from(0);
        due.is("34", s.about(0, 1) * 10 + s.count(3), 111);
        s.from(1);
        due.is("34", s.about(0, 1) * 10 + s.count(3), 180);
        refused("34", s, 2, 0, 0);
    }

    private static void p35() {
        OvenLies s = with(new int[] {0, 9}, new int[] {0, 1});
        due.is("35", s.from(-1), -2);
        due.is("35", s.from(2), -2);
        due.is("35", s.from(0), -3);
        s.seen(1, 2, 3, 4, 5);
        s.note(0, 1, 2, 3, 4);
        s.mark(1, 2, 3, 4);
        s.says(0, 0);
        s.days(2);
        s.image(0);
        long kept = s.digest();
        s.seen(0, 0, 0, 0, 0);
        s.forget(1);
        s.mark(0, 0, 0, 0);
        s.undo();
        s.lie(3, 3);
        s.oven(3);
        s.says(1, 2);
        due.is("35", s.from(0), 1);
        due.is("35 as it was", s.digest(), kept);
        s.type(65);
        s.trues(0, 1, 0);
        s.from(0);
        due.is("35 THE TEXT stays", s.count(9), 1);
        due.is("35 THE FRACTION stays", s.part(1), 1);
        due.is("35 undo of the image", s.undo(), 0);
        due.is("35 undo of the image", s.about(0, 1), 18);
        due.is("35 undo of the image", s.undo(), 0);
        due.is("35 undo of the image", s.about(0, 1), 0);
        due.is("35 no more", s.undo(), -3);
        due.is("35 again", s.from(0), 1);
        due.is("35 it is its own", s.count(8), 2);
        due.is("35 the other", s.from(1), -3);
        refused("35", s, 2, 3, 0);
    }

    private static void p36() {
        OvenLies s = new OvenLies();
        due.is("36", s.status(3), -1);
        due.is("36", s.status(-1), -1);
        due.is("36 counts as BAD", s.status(0), 2);
        s.undo();
        due.is("36", s.status(1), 1);
        for (int i = 0; i < 6; i++) s.oven(0);
        due.is("36", s.status(2), 1);
        s.few(0, 0);
        s.arch(0, 0);
        read(s, "x");
        s.keep(0, 1);
        s.tell(0);
        due.is("36 the others do not count", s.status(0), 2);
        due.is("36 the others do not count", s.status(1), 1);
        s.few(9, 0);
        s.arch(9, 0);
        s.round(9);
        due.is("36 -10 counts as BAD", s.status(0), 5);
        s.part(7);
        s.count(10);
        due.is("36", s.status(0), 7);
    }

    private static void p37() {
        OvenLies s = with(new int[] {5, 9, 0, 9, 0, 3}, new int[] {0, 0});
        s.says(0, 0);
        s.says(1, 1);
        s.days(3);
        for (int i = 0; i < 2; i++) s.seen(0, 0, 0, 0, 0);
        for (int i = 0; i < 4; i++) s.note(0, 1, 0, 0, 0);
        for (int i = 0; i < 5; i++) s.mark(0, 0, 0, 0);
        for (int i = 0; i < 11; i++) s.type(32);
        int[] counts = {3, 2, 1, 3, 23, 2, 4, 5, 3, 11};
        for (int what = 0; what <= 9; what++) due.is("37 count " + what, s.count(what), counts[what]);
        due.is("37", s.count(10), -2);
        due.is("37", s.count(-1), -2);
        refused("37", s, 2, 0, 0);
    }

    private static long mixed(long... values) {
        long h = 1697;
        for (long v : values) h = 31 * h + v;
        return h;
    }

    private static void p38() {
        OvenLies s = new OvenLies();
        due.is("38", s.digest(), mixed(0, 0, 0, 0, 0, 0, 0, 0, 0, 0, 0, 1));
        s.lie(5, 9);
        s.lie(0, 3);
        s.oven(0);
        s.oven(4);
        s.says(0, 0);
        s.days(2);
        s.says(1, 1);
        s.seen(1, 2, 3, 4, 5);
        s.seen(0, 12, 13 - 4, 14, 15);
        s.note(1, 2, 3, 4, 5);
        s.mark(1, 20, 30, 40);
        s.mark(0, 21, 31, 41);
        s.trues(1, 3, 3);
        s.type(7);
        s.status(9);
        due.is("38", s.digest(), mixed(2, 2, 1, 2, 36, 2, 1, 2, 3, 1, 5, 9, 1, 0, 3, 1, 0, 30, 4, 6,
            1, 2, 3, 4, 5, 0, 12, 9, 14, 15, 1, 2, 3, 4, 5, 1, 20, 30, 40, 0, 21, 31, 41, 49, 100));
        due.is("38 nothing refused by it", s.status(0), 1);
    }

    private static void constants() {
        due.is("NONE", OvenLies.NONE, -1);
        due.is("BAD", OvenLies.BAD, -2);
        due.is("NO", OvenLies.NO, -3);
        due.is("FULL", OvenLies.FULL, -4);
    }

    public static void main(String[] args) {
        constants();
        p01(); p02(); p03(); p04(); p05(); p06(); p07(); p08(); p09(); p10();
        p11(); p12(); p13(); p14(); p15(); p16(); p17(); p18(); p19(); p20();
        p21(); p22(); p23(); p24(); p25(); p26(); p27(); p28(); p29(); p30();
        p31(); p32(); p33(); p34(); p35(); p36(); p37(); p38();
        due.end();
    }
}
