/* Terms: how LIES of each KIND light, and what OVENS of each KIND take, at the edges that the document names. */
public final class EdgesOfKindsTest {
    private static final int PLAIN = 0, FIB = 1, NEIGHBOURS = 2, HILL = 3, CONFESSED = 4, COME_ABOUT = 5;
    private static final int CLAY = 2, SMALL = 4, PRIESTS = 8, OLD = 16, WEDDING = 32;

    private static final Edges edges = new Edges();

    /* How a LIE lights that is KNOWN to k, on DAY d. */
    private static void lights(int kind, int u, int k, int d, int x) {
        OvenLies s = Towns.knownTo(kind, u, k);
        Towns.toDay(s, d);
        String lie = "UNTRUTH " + u + ", KNOWN to " + k + ", DAY " + d;
        edges.is(lie, s.of(0, 3), x);
        edges.is(lie + ", a PLAIN OVEN takes", s.takes(0, 0), x);
        if (d <= 99) {
            s.note(0, u, k, d, x);
            edges.is(lie + ", by a NOTE", s.is(0) >> kind & 1, 1);
        }
    }

    private static void lit(int kind, int... rows) {
        for (int i = 0; i + 3 < rows.length; i += 4) lights(kind, rows[i], rows[i + 1], rows[i + 2], rows[i + 3]);
    }

    private static void kindsOfLies() {
        edges.sentence("Terms", "PLAIN: twice u, less twice k, 0 at least");
        lit(PLAIN, 1, 0, 0, 2, 1, 1, 0, 0, 1, 2, 0, 0, 1, 9, 0, 0, 9, 0, 0, 18, 9, 8, 0, 2, 9, 9, 0, 0, 8, 9, 0, 0);

        edges.sentence("Terms", "PLAIN is the same on any DAY");
        lit(PLAIN, 9, 0, 6, 18, 9, 0, 10, 18, 9, 0, 20, 18, 9, 2, 20, 14);

        edges.sentence("Terms", "FIB: PLAIN, 4 more, if k is 0");
        lit(FIB, 1, 0, 0, 6, 1, 1, 0, 0, 2, 1, 0, 2, 9, 0, 0, 22, 9, 1, 0, 16, 9, 2, 0, 14, 9, 8, 0, 2, 9, 9, 0, 0);
        lit(FIB, 9, 0, 6, 22, 9, 0, 10, 22, 9, 1, 20, 16);

        edges.sentence("Terms", "NEIGHBOUR'S: half (cut up) of PLAIN");
        lit(NEIGHBOURS, 1, 0, 0, 1, 1, 1, 0, 0, 9, 0, 0, 9, 9, 1, 0, 8, 9, 8, 0, 1, 9, 9, 0, 0, 9, 0, 20, 9);

        edges.sentence("Terms", "HILL: as FIB, but 0, if k is 2 or more");
        lit(HILL, 9, 0, 0, 22, 9, 1, 0, 16, 9, 2, 0, 0, 9, 3, 0, 0, 9, 9, 0, 0, 1, 0, 0, 6, 1, 1, 0, 0, 9, 1, 20, 16);

        edges.sentence("Terms", "CONFESSED: PLAIN, 6 more, if d by 7 leaves 6 over");
        lit(CONFESSED, 9, 0, 0, 18, 9, 0, 5, 18, 9, 0, 6, 24, 9, 0, 7, 18, 9, 0, 12, 18, 9, 0, 13, 24, 9, 0, 14, 18);
        lit(CONFESSED, 9, 9, 6, 6, 1, 1, 6, 6, 1, 2, 6, 6, 1, 2, 5, 0, 9, 1, 6, 22, 9, 0, 97, 24, 9, 0, 99, 18);
        lit(CONFESSED, 9, 0, 9995, 24, 9, 0, 9994, 18, 9, 0, 9999, 18);

        edges.sentence("Terms", "COME ABOUT: twice FIB, if 10 divides d, else as FIB");
        lit(COME_ABOUT, 9, 0, 0, 44, 9, 0, 1, 22, 9, 0, 9, 22, 9, 0, 10, 44, 9, 0, 11, 22, 9, 0, 20, 44, 9, 0, 5, 22);
        lit(COME_ABOUT, 9, 1, 0, 32, 9, 1, 1, 16, 9, 8, 10, 4, 9, 9, 10, 0, 1, 0, 10, 12, 1, 1, 10, 0, 1, 0, 9, 6);
        lit(COME_ABOUT, 9, 0, 9990, 44, 9, 0, 9999, 22, 9, 1, 90, 32, 9, 1, 99, 16);
    }

    /* By which KINDS an OVEN that had HEAT h took y of x. */
    private static void took(int h, int x, int y, int kinds) {
        OvenLies s = Towns.with(Towns.lies(), 0);
        s.mark(0, h, x, y);
        edges.is("of HEAT " + h + " took " + y + " of " + x, s.kinds(0), kinds);
    }

    private static void kindsOfOvens() {
        edges.sentence("Terms", "an OVEN, PLAIN: x");
        took(0, 60, 60, 1);
        took(99, 60, 60, 1);
        took(0, 0, 0, 1 + CLAY + SMALL + PRIESTS + OLD + WEDDING);
        took(0, 1, 1, 1 + CLAY + OLD + WEDDING);
        took(0, 59, 60, 0);

        edges.sentence("Terms", "CLAY: PLAIN, 12 at most");
        took(0, 11, 11, 1 + CLAY + OLD);
        took(0, 12, 12, 1 + CLAY + OLD);
        took(10, 12, 12, 1 + CLAY);
        took(10, 13, 12, CLAY);
        took(10, 13, 13, 1);
        took(99, 60, 12, CLAY);
        took(99, 11, 11, 1 + CLAY);

        edges.sentence("Terms", "SMALL: half (cut) of PLAIN");
        took(0, 1, 0, SMALL);
        took(0, 2, 1, SMALL);
        took(0, 3, 1, SMALL);
        took(0, 3, 2, 0);
        took(0, 59, 29, SMALL);
        took(0, 60, 30, SMALL);

        edges.sentence("Terms", "PRIEST'S: SMALL and 4, if x is 1 or more");
        took(0, 0, 4, 0);
        took(0, 1, 4, PRIESTS);
        took(0, 2, 5, PRIESTS);
        took(0, 3, 5, PRIESTS);
        took(0, 60, 34, PRIESTS);
        took(99, 1, 4, PRIESTS);

        edges.sentence("Terms", "OLD: CLAY less 1 for each whole 10 of h");
        took(9, 12, 12, 1 + CLAY + OLD);
        took(10, 12, 11, OLD);
        took(19, 60, 11, OLD);
        took(20, 60, 10, OLD);
        took(29, 60, 10, OLD);
        took(30, 60, 9, OLD);
        took(89, 60, 4, OLD);
        took(90, 60, 3, OLD);
        took(99, 60, 3, OLD);

        edges.sentence("Terms", "OLD: 0 at least");
        took(50, 6, 1, OLD);
        took(50, 5, 0, OLD);
        took(50, 4, 0, OLD);
        took(99, 9, 0, OLD);
        took(99, 10, 1, OLD);
        took(99, 0, 0, 1 + CLAY + SMALL + PRIESTS + OLD + WEDDING);

        edges.sentence("Terms", "WEDDING: PLAIN, 5 more, if x is 10 or more");
        took(10, 9, 9, 1 + CLAY + WEDDING);
        took(0, 9, 14, 0);
        took(0, 10, 15, WEDDING);
        took(0, 11, 16, WEDDING);
        took(0, 55, 60, WEDDING);
        took(99, 10, 15, WEDDING);
    }

    /* What an OVEN takes of an UNTRUTH said for the first time, on DAY 0. */
    private static void takes(int ovenKind, int... kindsUntruthsAndHeats) {
        for (int i = 0; i + 2 < kindsUntruthsAndHeats.length; i += 3) {
            int kind = kindsUntruthsAndHeats[i], u = kindsUntruthsAndHeats[i + 1], due = kindsUntruthsAndHeats[i + 2];
            OvenLies s = Towns.with(Towns.lies(kind, u), ovenKind);
            edges.is("KIND " + kind + ", UNTRUTH " + u, s.takes(0, 0), due);
            edges.is("KIND " + kind + ", UNTRUTH " + u + " said", s.says(0, 0), due);
        }
    }

    private static void ovensAndLies() {
        edges.sentence("Terms", "CLAY of what LIES light: 12 at most");
        takes(1, PLAIN, 5, 10, PLAIN, 6, 12, PLAIN, 7, 12, COME_ABOUT, 9, 12, NEIGHBOURS, 1, 1);
        edges.sentence("Terms", "SMALL of what LIES light: half (cut)");
        takes(2, NEIGHBOURS, 1, 0, NEIGHBOURS, 3, 1, PLAIN, 1, 1, COME_ABOUT, 9, 22);
        edges.sentence("Terms", "PRIEST'S of what LIES light: SMALL and 4");
        takes(3, NEIGHBOURS, 1, 4, PLAIN, 1, 5, COME_ABOUT, 9, 26);
        OvenLies none = Towns.knownTo(0, 1, 1);
        none.oven(3);
        edges.is("of 0", none.takes(1, 0), 0);
        edges.sentence("Terms", "OLD of what LIES light: as CLAY below HEAT 10");
        takes(4, PLAIN, 5, 10, PLAIN, 6, 12, PLAIN, 7, 12, NEIGHBOURS, 1, 1);
        edges.sentence("Terms", "WEDDING of what LIES light: 5 more from 10 on");
        takes(5, NEIGHBOURS, 9, 9, PLAIN, 4, 8, PLAIN, 5, 15, COME_ABOUT, 9, 49);

        edges.sentence("Terms", "OLD takes by the HEAT that it has then");
        OvenLies old = Towns.with(Towns.lies(0, 9, 0, 8, 0, 7, 0, 6), 4);
        edges.is("at 0", old.says(0, 0), 12);
        edges.is("at 12: 11", old.says(1, 0), 23);
        edges.is("at 23: 10", old.says(2, 0), 33);
        edges.is("at 33: 9", old.takes(0, 3), 9);
        edges.is("at 33: of 12, as it is KNOWN to one by then, 9", old.says(2, 0), 42);
    }

    public static void main(String[] args) {
        kindsOfLies();
        kindsOfOvens();
        ovensAndLies();
        edges.end();
    }
}
