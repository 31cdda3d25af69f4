/* Long runs of calls, the same ones for OvenLies and for Model: every answer and every digest is alike. */
public final class ModelTest {
    private static final String[] NAMES = {"town", "lie", "oven", "type", "clear", "read", "days", "says", "forgets",
        "undo", "of", "about", "takes", "then", "cold", "few", "round", "keep", "seen", "which", "tell", "note", "mark",
        "forget", "is", "look", "kinds", "ask", "arch", "trues", "years", "part", "image", "from", "status", "count",
        "digest"};

    /* How often each call comes, by the places of NAMES. */
    private static final int[] OFTEN = {1, 24, 16, 10, 1, 3, 20, 60, 8, 14, 10, 8, 14, 6, 8, 16, 14, 14, 14, 10, 10, 14,
        14, 2, 8, 8, 8, 8, 14, 12, 10, 6, 5, 4, 5, 10, 0};

    private static final int[] ODD = {Integer.MIN_VALUE, -1000, -11, -3, -2, -1, 0, 1, 2, 5, 6, 7, 9, 10, 60, 61, 99,
        100, 127, 128, 150, 999999, 1000000, Integer.MAX_VALUE, -2147483647, 2147483646, 1 << 16, 1 << 30};

    private static long x;

    private static int below(int n) {
        x = (x * 6364136223846793005L) + 1442695040888963407L;
        return (int) ((x >>> 33) % n);
    }

    private static int number(int low, int high) {
        int choice = below(60);
        if (choice == 0) return ODD[below(ODD.length)];
        if (choice == 1) return low - 1;
        if (choice == 2) return high + 1;
        if (choice == 3) return low;
        if (choice == 4) return high;
        return low + below(Math.max(1, high - low + 1));
    }

    private static int pick() {
        int sum = 0;
        for (int n : OFTEN) sum += n;
        int at = below(sum);
        for (int i = 0; i < OFTEN.length; i++) {
            at -= OFTEN[i];
            if (at < 0) return i;
        }
        return 0;
    }

    private static int[] numbers(String name, Model m) {
        int l = number(0, m.now.lies.size() - 1), o = number(0, m.now.ovens.size() - 1);
        int k = number(0, 9), d = below(2) == 0 ? number(0, 20) : number(0, 99);
        switch (name) {
            case "lie": return new int[] {number(0, 5), number(1, 9)};
            case "oven": return new int[] {number(0, 5)};
            case "type": return new int[] {number(0, 127)};
            case "days": return new int[] {below(4) == 0 ? number(1, 60) : number(1, 3)};
            case "says": return new int[] {l, o};
            case "forgets": case "is": case "look": return new int[] {l};
            case "of": return new int[] {l, number(0, 3)};
            case "about": return new int[] {o, number(0, 2)};
            case "takes": return new int[] {o, l};
            case "then": return new int[] {o, below(2) == 0 ? number(0, 60) : number(0, 9)};
            case "cold": case "tell": case "kinds": case "ask": return new int[] {o};
            case "few": return new int[] {o, number(-1, 4)};
            case "round": return new int[] {number(-2, m.now.ovens.size() - 1)};
            case "keep": return new int[] {o, below(2) == 0 ? number(1, 3) : number(1, 9)};
            case "seen": return aSeen(m, o, k, d);
            case "note": return aNote(m, l, k, d);
            case "mark": return aMark(m, o);
            case "forget": return new int[] {number(0, 2)};
            case "arch": return new int[] {o, number(-1, 6)};
            case "trues": return new int[] {o, number(0, (1 << m.now.lies.size()) - 1), number(0, 10)};
            case "years": return new int[] {number(0, 999999), number(0, 60)};
            case "part": case "image": case "from": return new int[] {number(0, 1)};
            case "status": return new int[] {number(0, 2)};
            case "count": return new int[] {number(0, 9)};
            default: return new int[] {};
        }
    }

    /* Mostly ones that could have been, so that some LIES and KINDS fit. */
    private static int[] aSeen(Model m, int o, int k, int d) {
        int h = number(0, 99);
        if (!m.now.oven(o) || m.now.lies.isEmpty() || below(8) == 0) return new int[] {o, h, k, d, number(0, 60)};
        int few = below(3);
        int[] lie = m.now.lies.get(below(m.now.lies.size()));
        return new int[] {o, h, few, d, Model.takes(m.now.ovens.get(o)[0], Model.lights(lie[0], lie[1], few, d), h)};
    }

    private static int[] aNote(Model m, int l, int k, int d) {
        int u = number(1, 9);
        if (!m.now.lie(l) || below(8) == 0) return new int[] {l, u, k, d, number(0, 60)};
        int few = below(3);
        return new int[] {l, u, few, d, Model.lights(m.now.lies.get(l)[0], u, few, d)};
    }

    private static int[] aMark(Model m, int o) {
        int h = number(0, 99), y = number(0, 60);
        if (!m.now.oven(o) || below(8) == 0) return new int[] {o, h, y, number(0, 60)};
        return new int[] {o, h, y, Model.takes(m.now.ovens.get(o)[0], y, h)};
    }

    private static long ask(OvenLies s, String name, int[] n) {
        switch (name) {
            case "town": return s.town();
            case "lie": return s.lie(n[0], n[1]);
            case "oven": return s.oven(n[0]);
            case "type": return s.type(n[0]);
            case "clear": return s.clear();
            case "read": return s.read();
            case "days": return s.days(n[0]);
            case "says": return s.says(n[0], n[1]);
            case "forgets": return s.forgets(n[0]);
            case "undo": return s.undo();
            case "of": return s.of(n[0], n[1]);
            case "about": return s.about(n[0], n[1]);
            case "takes": return s.takes(n[0], n[1]);
            case "then": return s.then(n[0], n[1]);
            case "cold": return s.cold(n[0]);
            case "few": return s.few(n[0], n[1]);
            case "round": return s.round(n[0]);
            case "keep": return s.keep(n[0], n[1]);
            case "seen": return s.seen(n[0], n[1], n[2], n[3], n[4]);
            case "which": return s.which();
            case "tell": return s.tell(n[0]);
            case "note": return s.note(n[0], n[1], n[2], n[3], n[4]);
            case "mark": return s.mark(n[0], n[1], n[2], n[3]);
            case "forget": return s.forget(n[0]);
            case "is": return s.is(n[0]);
            case "look": return s.look(n[0]);
            case "kinds": return s.kinds(n[0]);
            case "ask": return s.ask(n[0]);
            case "arch": return s.arch(n[0], n[1]);
            case "trues": return s.trues(n[0], n[1], n[2]);
            case "years": return s.years(n[0], n[1]);
            case "part": return s.part(n[0]);
            case "image": return s.image(n[0]);
            case "from": return s.from(n[0]);
            case "status": return s.status(n[0]);
            case "count": return s.count(n[0]);
            default: return s.digest();
        }
    }

    private static long ask(Model s, String name, int[] n) {
        switch (name) {
            case "town": return s.town();
            case "lie": return s.lie(n[0], n[1]);
            case "oven": return s.oven(n[0]);
            case "type": return s.type(n[0]);
            case "clear": return s.clear();
            case "read": return s.read();
            case "days": return s.days(n[0]);
            case "says": return s.says(n[0], n[1]);
            case "forgets": return s.forgets(n[0]);
            case "undo": return s.undo();
            case "of": return s.of(n[0], n[1]);
            case "about": return s.about(n[0], n[1]);
            case "takes": return s.takes(n[0], n[1]);
            case "then": return s.then(n[0], n[1]);
            case "cold": return s.cold(n[0]);
            case "few": return s.few(n[0], n[1]);
            case "round": return s.round(n[0]);
            case "keep": return s.keep(n[0], n[1]);
            case "seen": return s.seen(n[0], n[1], n[2], n[3], n[4]);
            case "which": return s.which();
            case "tell": return s.tell(n[0]);
            case "note": return s.note(n[0], n[1], n[2], n[3], n[4]);
            case "mark": return s.mark(n[0], n[1], n[2], n[3]);
            case "forget": return s.forget(n[0]);
            case "is": return s.is(n[0]);
            case "look": return s.look(n[0]);
            case "kinds": return s.kinds(n[0]);
            case "ask": return s.ask(n[0]);
            case "arch": return s.arch(n[0], n[1]);
            case "trues": return s.trues(n[0], n[1], n[2]);
            case "years": return s.years(n[0], n[1]);
            case "part": return s.part(n[0]);
            case "image": return s.image(n[0]);
            case "from": return s.from(n[0]);
            case "status": return s.status(n[0]);
            case "count": return s.count(n[0]);
            default: return s.digest();
        }
    }

    private static void both(Due due, String run, OvenLies s, Model m, String name, int[] n) {
        due.is(run + " " + name + java.util.Arrays.toString(n), ask(s, name, n), ask(m, name, n));
    }

    private static void digests(Due due, String run, OvenLies s, Model m) {
        due.is(run + " digest", s.digest(), m.digest());
    }

    private static void statuses(Due due, String run, OvenLies s, Model m) {
        for (int i = 0; i < 3; i++) due.is(run + " status", s.status(i), m.status(i));
    }

    private static void runOfCalls(Due due, int run) {
        OvenLies s = new OvenLies();
        Model m = new Model();
        if (below(3) != 0) {
            for (int i = below(8); i > 0; i--) both(due, "run " + run, s, m, "lie", new int[] {below(6), 1 + below(9)});
            for (int i = below(6); i > 0; i--) both(due, "run " + run, s, m, "oven", new int[] {below(6)});
        }
        // With the LIES and OVENS ahead and STATUS behind no object hears more than 512 calls.
        for (int call = 0; call < 240 && due.allRight(); call++) {
            String name = NAMES[pick()];
            String place = "run " + run + " call " + call;
            both(due, place, s, m, name, numbers(name, m));
            digests(due, place, s, m);
        }
        statuses(due, "run " + run, s, m);
    }

    private static String blanks(boolean needed) {
        int n = below(6) == 0 ? below(4) : needed ? 1 : below(12) == 0 ? 1 : 0;
        return "     ".substring(0, needed ? Math.max(n, below(40) == 0 ? 0 : 1) : n);
    }

    private static String figures(int low, int high) {
        int v = low + below(Math.max(1, high - low + 1));
        if (below(80) == 0) v = below(130);
        return v < 10 && below(12) == 0 ? (below(9) == 0 ? "00" : "0") + v : "" + v;
    }

    private static String aText() {
        StringBuilder t = new StringBuilder();
        if (below(20) != 0) t.append(blanks(false)).append("town").append(blanks(false)).append(";");
        int lies = 0, ovens = 0;
        while (below(18) != 0 && t.length() < 165) {
            t.append(blanks(false));
            int choice = below(12);
            if (choice < 4 && (lies < 7 || below(30) == 0)) {
                t.append("lie").append(blanks(false)).append(figures(0, 5)).append(blanks(true)).append(figures(1, 9));
                lies++;
            } else if (choice < 6 && (ovens < 5 || below(30) == 0)) {
                t.append("oven").append(blanks(false)).append(figures(0, 5));
                ovens++;
            } else if (choice < 10 && (lies > 0 && ovens > 0 || below(60) == 0)) {
                t.append("say").append(blanks(false)).append(figures(0, lies - 1)).append(blanks(true));
                t.append(figures(0, ovens - 1));
            } else if (choice == 10 && (lies > 0 || below(60) == 0)) {
                t.append("forget").append(blanks(false)).append(figures(0, lies - 1));
            } else if (choice == 11) {
                t.append("days").append(blanks(false)).append(figures(1, below(2) == 0 ? 3 : 99));
            } else if (below(60) == 0) {
                t.append(below(2) == 0 ? "town" : "liar");
            } else {
                continue;
            }
            t.append(blanks(false)).append(below(80) == 0 ? "" : ";");
        }
        t.append(blanks(false));
        if (below(3) == 0 && t.length() > 0) {
            int at = below(t.length());
            int choice = below(4);
            if (choice == 0) t.deleteCharAt(at);
            if (choice == 1) t.setCharAt(at, (char) below(128));
            if (choice == 2) t.insert(at, "0129azls;; T\n".charAt(below(13)));
            if (choice == 3) t.setLength(at);
        }
        return t.toString();
    }

    private static void runOfText(Due due, int run) {
        OvenLies s = new OvenLies();
        Model m = new Model();
        for (int i = below(6); i > 0; i--) {
            String name = NAMES[pick()];
            both(due, "text " + run, s, m, name, numbers(name, m));
        }
        s.clear();
        m.clear();
        String text = aText();
        for (int i = 0; i < text.length(); i++) {
            due.is("text " + run + " type", s.type(text.charAt(i)), m.type(text.charAt(i)));
        }
        due.is("text " + run + " <" + text + "> read", s.read(), m.read());
        digests(due, "text " + run + " <" + text + ">", s, m);
        statuses(due, "text " + run + " <" + text + ">", s, m);
        for (int i = 0; i < 12; i++) {
            String name = NAMES[pick()];
            both(due, "text " + run + " <" + text + ">", s, m, name, numbers(name, m));
        }
        digests(due, "text " + run + " <" + text + "> then", s, m);
    }

    /* The last DAY is far away for runs of a few calls. */
    private static void lastDay(Due due) {
        OvenLies s = new OvenLies();
        Model m = new Model();
        both(due, "last day", s, m, "lie", new int[] {5, 9});
        both(due, "last day", s, m, "oven", new int[] {0});
        for (int i = 0; i < 165; i++) both(due, "last day", s, m, "days", new int[] {60});
        for (int i = 0; i < 40; i++) {
            both(due, "last day", s, m, "days", new int[] {1 + i % 7});
            both(due, "last day", s, m, "says", new int[] {0, 0});
            both(due, "last day", s, m, "forgets", new int[] {0});
            digests(due, "last day", s, m);
            both(due, "last day", s, m, "keep", new int[] {0, 4});
            both(due, "last day", s, m, "years", new int[] {i, 30});
        }
        for (int i = 0; i < 10; i++) {
            both(due, "last day", s, m, "undo", new int[] {});
            digests(due, "last day", s, m);
        }
        statuses(due, "last day", s, m);
    }

    /* Strong LIES, few of them or few OVENS, so that YEARS leave some HOT. */
    private static void strongYears(Due due) {
        for (int run = 0; run < 400; run++) {
            OvenLies s = new OvenLies();
            Model m = new Model();
            for (int i = below(8); i > 0; i--) both(due, "years", s, m, "lie", new int[] {below(6), 7 + below(3)});
            for (int i = below(6); i > 0; i--) both(due, "years", s, m, "oven", new int[] {below(6)});
            for (int i = below(12); i > 0; i--) both(due, "years", s, m, "says", new int[] {below(7), below(5)});
            both(due, "years", s, m, "days", new int[] {1 + below(9)});
            int seed = below(1000000);
            for (int n = 0; n <= 60; n++) both(due, "years", s, m, "years", new int[] {seed, n});
            for (int n = 0; n <= 40; n++) both(due, "years", s, m, "years", new int[] {below(1000000), below(9)});
        }
    }

    public static void main(String[] args) {
        int runs = args.length > 0 ? Integer.parseInt(args[0]) : 1200;
        x = args.length > 1 ? Long.parseLong(args[1]) : 2026;
        Due due = new Due();
        lastDay(due);
        strongYears(due);
        for (int run = 0; run < runs && due.allRight(); run++) runOfCalls(due, run);
        for (int run = 0; run < 20 * runs && due.allRight(); run++) runOfText(due, run);
        due.end();
    }
}
