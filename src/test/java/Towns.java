/* Towns for the tests: each call makes a new object, the same one each time. */
final class Towns {
    /* THE TEXT of a town, as long as it can be. */
    static final String LONG_TEXT = blanksBehind("town;lie 1 9;lie 5 3;oven 0;oven 2;say 0 0;days 2;say 1 1;", 150);

    private Towns() {
    }

    static OvenLies empty() {
        return new OvenLies();
    }

    /* LIES by KIND and UNTRUTH, OVENS by KIND. */
    static OvenLies with(int[] lies, int... ovens) {
        OvenLies s = new OvenLies();
        for (int i = 0; i + 1 < lies.length; i += 2) s.lie(lies[i], lies[i + 1]);
        for (int kind : ovens) s.oven(kind);
        return s;
    }

    static int[] lies(int... kindsAndUntruths) {
        return kindsAndUntruths;
    }

    /* Some of everything, and room for more: 5 LIES, 3 OVENS, IMAGE 0 alone. */
    static OvenLies some() {
        OvenLies s = with(lies(0, 9, 1, 9, 2, 9, 3, 9, 4, 9), 0, 5, 4);
        s.says(0, 0);
        s.image(0);
        s.says(1, 0);
        for (int i = 0; i < 2; i++) {
            s.seen(i, 3 + i, 0, 5, 18);
            s.note(i, 9, i, 3, 18 - 2 * i);
            s.mark(i, 40, 9, 9);
        }
        s.days(2);
        s.says(2, 1);
        s.forgets(0);
        s.trues(0, 3, 3);
        type(s, "town;lie 3 7; oven 1;say 0 0;");
        return s;
    }

    /* As much of everything as there can be. */
    static OvenLies full() {
        OvenLies s = with(lies(5, 9, 4, 9, 3, 9, 2, 9, 1, 9, 0, 9, 0, 1), 5, 4, 3, 1, 0);
        s.image(1);
        for (int i = 0; i < 6; i++) {
            s.seen(4, 99, 2, 99, 14);
            s.note(i, 9, 9, 99, 0);
            s.mark(i % 5, 99, 60, 60);
        }
        for (int i = 0; i < 10; i++) s.says(4, i % 4);
        for (int i = 0; i < 4; i++) s.says(0, 4);
        s.says(5, 4);
        s.image(0);
        s.trues(1, 127, 7);
        type(s, LONG_TEXT);
        return s;
    }

    /* The DAY is 9999; nothing is there; 8 DAYS may be undone. */
    static OvenLies onLastDay() {
        return onDay(9999);
    }

    static OvenLies onDay(int day) {
        OvenLies s = new OvenLies();
        toDay(s, day);
        return s;
    }

    static void toDay(OvenLies s, int day) {
        int left = day - s.count(3);
        while (left > 0) {
            int n = Math.min(left, 60);
            s.days(n);
            left -= n;
        }
    }

    /* OVEN 0 is PLAIN and has HEAT h; at most four LIES are there by it, on a DAY that 10 divides. */
    static OvenLies ofHeat(int h) {
        OvenLies s = new OvenLies();
        s.oven(0);
        heatUp(s, 0, h);
        return s;
    }

    static void heatUp(OvenLies s, int oven, int h) {
        int left = h;
        while (left > 0) {
            int l;
            if (left >= 12) {
                l = s.lie(5, Math.min(9, (left - 8) / 4));
            } else if (left >= 2) {
                l = s.lie(0, Math.min(9, left / 2));
            } else {
                l = s.lie(2, 1);
            }
            left -= s.of(l, 3);
            s.says(l, oven);
        }
    }

    /* As ofHeat, but all LIES that are there light by 0, as they were said into OVEN 1 too often. */
    static OvenLies worn(int h) {
        OvenLies s = ofHeat(h);
        s.oven(0);
        for (int l = 0; l < s.count(0); l++) {
            for (int i = 0; i < 9; i++) s.says(l, 1);
        }
        return s;
    }

    /* LIE 0 of that KIND and UNTRUTH is KNOWN to k, by SAYINGS into OVEN 0, a PLAIN one. */
    static OvenLies knownTo(int kind, int untruth, int k) {
        OvenLies s = with(lies(kind, untruth), 0);
        for (int i = 0; i < k; i++) s.says(0, 0);
        return s;
    }

    static void type(OvenLies s, String text) {
        for (int i = 0; i < text.length(); i++) s.type(text.charAt(i));
    }

    static OvenLies typed(String text) {
        OvenLies s = new OvenLies();
        type(s, text);
        return s;
    }

    static String blanksBehind(String text, int length) {
        StringBuilder all = new StringBuilder(text);
        while (all.length() < length) all.append(' ');
        return all.toString();
    }
}
