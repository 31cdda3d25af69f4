public final class OvenLies {
    public static final int NONE = -1, BAD = -2, NO = -3, FULL = -4;

    private static final int NOT_SO_MANY = -5, NO_ROW = -6, BAD_TEN = -10;
    private static final int HEAT_ALONE = -1, HOT_ALONE = -2;

    private static final int MOST_LIES = 7, MOST_OVENS = 5, LIE_KINDS = 6, OVEN_KINDS = 6;
    private static final int MOST_UNTRUTH = 9, MOST_KNOWN = 9, MOST_HEAT = 99, LAST_DAY = 9999;
    private static final int HOT_FROM = 20, COOLS_BY = 7, MOST_DAYS = 60, MOST_TAKEN = 60;
    private static final int MOST_NOTED_DAY = 99, MOST_BYTES = 150, MOST_SAYINGS = 5;
    private static final int MOST_SEEN = 5, MOST_NOTES = 6, MOST_MARKS = 6, MOST_UNDONE = 8;
    private static final int MOST_SEED = 999999, MOST_KEPT_DAYS = 9, IMAGES = 2;
    private static final int GOES_OUT = -3;

    private final Town now;
    private final Town spare;
    private final Town[] images;
    private final boolean[] kept;
    private final Reader reader;
    private final FewSearch fewSearch;
    private final RoundSearch roundSearch;
    /* What the candidates of one question would answer, or what LIES bring at an arch. */
    private final int[] answers;
    private long above;
    private long below;
    private int badCalls;
    private int noCalls;
    private int fullCalls;

    public OvenLies() {
        now = new Town();
        spare = new Town();
        images = new Town[IMAGES];
        for (int i = 0; i < IMAGES; i++) {
            images[i] = new Town();
        }
        kept = new boolean[IMAGES];
        reader = new Reader();
        fewSearch = new FewSearch(now);
        roundSearch = new RoundSearch(now);
        answers = new int[MOST_LIES];
        above = 0;
        below = 1;
    }

    // ---- a town

    public int town() {
        int before = now.lies;
        now.wipe();
        return before;
    }

    public int lie(int kind, int untruth) {
        if (!within(kind, 0, LIE_KINDS - 1) || !within(untruth, 1, MOST_UNTRUTH)) {
            return bad();
        }
        if (now.lies >= MOST_LIES) {
            return full();
        }
        now.past.wipe();
        return now.addLie(kind, untruth);
    }

    public int oven(int kind) {
        if (!within(kind, 0, OVEN_KINDS - 1)) {
            return bad();
        }
        if (now.ovens >= MOST_OVENS) {
            return full();
        }
        now.past.wipe();
        return now.addOven(kind);
    }

    public int type(int c) {
        if (!within(c, 0, 127)) {
            return bad();
        }
        if (reader.length >= MOST_BYTES) {
            return full();
        }
        return reader.append(c);
    }

    public int clear() {
        int before = reader.length;
        reader.length = 0;
        return before;
    }

    public int read() {
        // A text with a fault leaves all as it is, so it is read into another town first.
        spare.wipe();
        int items = reader.readInto(spare);
        if (items >= 0) {
            now.copyFrom(spare);
        }
        return items;
    }

    // ---- days

    public int days(int n) {
        if (!within(n, 1, MOST_DAYS)) {
            return bad();
        }
        now.past.remember(now);
        now.passDays(n);
        return now.hotOvens();
    }

    public int says(int l, int o) {
        if (!now.hasLie(l) || !now.hasOven(o)) {
            return bad();
        }
        now.past.remember(now);
        now.sayInto(l, o);
        return cell(now.heat, o);
    }

    public int forgets(int l) {
        if (!now.hasLie(l)) {
            return bad();
        }
        int before = cell(now.known, l);
        if (before == 0) {
            return no();
        }
        now.past.remember(now);
        put(now.known, l, 0);
        return before;
    }

    public int undo() {
        if (now.past.size <= 0) {
            return no();
        }
        now.past.takeBack(now);
        return now.day;
    }

    public int of(int l, int what) {
        if (!now.hasLie(l) || !within(what, 0, 3)) {
            return bad();
        }
        switch (what) {
            case 0:
                return cell(now.lieKind, l);
            case 1:
                return cell(now.untruth, l);
            case 2:
                return cell(now.known, l);
            default:
                return now.lightsKnownTo(l, cell(now.known, l));
        }
    }

    public int about(int o, int what) {
        if (!now.hasOven(o) || !within(what, 0, 2)) {
            return bad();
        }
        switch (what) {
            case 0:
                return cell(now.ovenKind, o);
            case 1:
                return cell(now.heat, o);
            default:
                return hotOne(cell(now.heat, o));
        }
    }

    // ---- how hot

    public int takes(int o, int l) {
        if (!now.hasOven(o) || !now.hasLie(l)) {
            return bad();
        }
        return now.takenNow(o, l);
    }

    public int then(int o, int m) {
        if (!now.hasOven(o) || !within(m, 0, MOST_DAYS)) {
            return bad();
        }
        return cooled(cell(now.heat, o), m);
    }

    public int cold(int o) {
        if (!now.hasOven(o)) {
            return bad();
        }
        int m = 0;
        while (m < MOST_DAYS && cooled(cell(now.heat, o), m) >= HOT_FROM) {
            m++;
        }
        return m;
    }

    public int few(int o, int k) {
        if (!now.hasOven(o) || k < NONE) {
            return badTen();
        }
        int sayings = fewSearch.fewest(o);
        if (sayings < 0) {
            return NO_ROW;
        }
        if (k == NONE) {
            return sayings;
        }
        return k < sayings ? cell(fewSearch.row, k) : NOT_SO_MANY;
    }

    public int round(int o) {
        if (o != HOT_ALONE && o != HEAT_ALONE && !now.hasOven(o)) {
            return badTen();
        }
        roundSearch.search();
        if (o == HOT_ALONE) {
            return roundSearch.bestHot;
        }
        if (o == HEAT_ALONE) {
            return roundSearch.bestHeat;
        }
        return cell(roundSearch.best, o);
    }

    public int keep(int o, int m) {
        if (!now.hasOven(o) || !within(m, 1, MOST_KEPT_DAYS)) {
            return bad();
        }
        for (int l = 0; l < now.lies; l++) {
            if (keepsHot(l, o, m)) {
                return l;
            }
        }
        return NONE;
    }

    // ---- which it was

    public int seen(int o, int h, int k, int d, int x) {
        if (!now.hasOven(o) || !within(h, 0, MOST_HEAT) || !within(k, 0, MOST_KNOWN)
                || !within(d, 0, MOST_NOTED_DAY) || !within(x, 0, MOST_TAKEN)) {
            return bad();
        }
        if (now.seenOnes.isFull()) {
            return full();
        }
        return now.seenOnes.add(o, h, k, d, x);
    }

    public int which() {
        return liesThatFit();
    }

    public int tell(int o) {
        if (!now.hasOven(o)) {
            return bad();
        }
        int lies = liesThatFit();
        int told = NONE;
        int fewest = MOST_LIES + 1;
        for (int d = 0; d <= 9 && lies != 0; d++) {
            for (int k = 0; k <= 2; k++) {
                int alike = liesTakenAlike(o, lies, k, d);
                if (alike < fewest) {
                    fewest = alike;
                    told = 10 * d + k;
                }
            }
        }
        return told;
    }

    public int note(int l, int u, int k, int d, int x) {
        if (!now.hasLie(l) || !within(u, 1, MOST_UNTRUTH) || !within(k, 0, MOST_KNOWN)
                || !within(d, 0, MOST_NOTED_DAY) || !within(x, 0, MOST_TAKEN)) {
            return bad();
        }
        if (now.notes.isFull()) {
            return full();
        }
        return now.notes.add(l, u, k, d, x);
    }

    public int mark(int o, int h, int x, int y) {
        if (!now.hasOven(o) || !within(h, 0, MOST_HEAT) || !within(x, 0, MOST_TAKEN)
                || !within(y, 0, MOST_TAKEN)) {
            return bad();
        }
        if (now.marks.isFull()) {
            return full();
        }
        return now.marks.add(o, h, x, y, 0);
    }

    public int forget(int what) {
        switch (what) {
            case 0:
                return now.seenOnes.wipe();
            case 1:
                return now.notes.wipe();
            case 2:
                return now.marks.wipe();
            default:
                return bad();
        }
    }

    public int is(int l) {
        return now.hasLie(l) ? lieKindsThatFit(l) : bad();
    }

    public int look(int l) {
        if (!now.hasLie(l)) {
            return bad();
        }
        int lieKinds = lieKindsThatFit(l);
        int told = NONE;
        int fewest = LIE_KINDS + 1;
        for (int k = 0; k <= 3 && lieKinds != 0; k++) {
            for (int d = 0; d <= 20; d++) {
                int alike = kindsLitAlike(lieKinds, cell(now.untruth, l), k, d);
                if (alike < fewest) {
                    fewest = alike;
                    told = 100 * k + d;
                }
            }
        }
        return told;
    }

    public int kinds(int o) {
        return now.hasOven(o) ? ovenKindsThatFit(o) : bad();
    }

    public int ask(int o) {
        if (!now.hasOven(o)) {
            return bad();
        }
        int ovenKinds = ovenKindsThatFit(o);
        int told = NONE;
        int fewest = OVEN_KINDS + 1;
        for (int x = 0; x <= MOST_TAKEN && ovenKinds != 0; x++) {
            int alike = kindsTakingAlike(ovenKinds, x, cell(now.heat, o));
            if (alike < fewest) {
                fewest = alike;
                told = x;
            }
        }
        return told;
    }

    public int arch(int o, int k) {
        if (!now.hasOven(o) || k < NONE) {
            return badTen();
        }
        for (int l = 0; l < now.lies; l++) {
            put(answers, l, now.takenNow(o, l) - cell(now.known, l));
        }
        int resting = 0;
        for (int i = 0; i < now.lies; i++) {
            for (int j = 0; j < now.lies; j++) {
                if (isBestBeside(i, j) && isBestBeside(j, i)) {
                    if (resting == k) {
                        return 10 * i + j;
                    }
                    resting++;
                }
            }
        }
        return k == NONE ? resting : NOT_SO_MANY;
    }

    public int trues(int o, int lies, int c) {
        if (!now.hasOven(o) || !within(lies, 0, bitsBelow(now.lies)) || !within(c, 0, 10)) {
            return bad();
        }
        long hot = 0;
        long all = 0;
        for (int came = 0; came <= lies; came++) {
            // Only sets of the LIES that are told can have come true.
            if ((came & ~lies) == 0) {
                long chance = chanceOf(came, lies, c);
                all += chance;
                hot += heatBehind(o, lies & ~came) >= HOT_FROM ? chance : 0;
            }
        }
        long shared = commonDivisor(hot, all);
        if (shared > 0) {
            above = hot / shared;
            below = all / shared;
        }
        return 1;
    }

    public int years(int seed, int n) {
        if (!within(seed, 0, MOST_SEED) || !within(n, 0, MOST_DAYS)) {
            return bad();
        }
        spare.copyFrom(now);
        long x = seed;
        for (int i = 0; i < n; i++) {
            x = (x * 1103515245L + 12345L) % 2147483648L;
            int l = (int) (x / 65536L % 7L);
            int o = (int) (x / 1048576L % 5L);
            if (spare.hasLie(l) && spare.hasOven(o)) {
                spare.sayInto(l, o);
            }
            spare.passDay();
        }
        return spare.hotOvens();
    }

    // ---- what there is

    public long part(int what) {
        switch (what) {
            case 0:
                return above;
            case 1:
                return below;
            default:
                return bad();
        }
    }

    public int image(int i) {
        if (!hasImage(i)) {
            return bad();
        }
        images[i].copyFrom(now);
        kept[i] = true;
        return 1;
    }

    public int from(int i) {
        if (!hasImage(i)) {
            return bad();
        }
        if (!kept[i]) {
            return no();
        }
        now.copyFrom(images[i]);
        return 1;
    }

    public int status(int what) {
        switch (what) {
            case 0:
                return badCalls;
            case 1:
                return noCalls;
            case 2:
                return fullCalls;
            default:
                badCalls++;
                return -1;
        }
    }

    public int count(int what) {
        return within(what, 0, 9) ? countOf(what) : bad();
    }

    public long digest() {
        long h = 1697;
        for (int what = 0; what <= 9; what++) {
            h = 31 * h + countOf(what);
        }
        for (int l = 0; l < now.lies; l++) {
            h = 31 * h + cell(now.lieKind, l);
            h = 31 * h + cell(now.untruth, l);
            h = 31 * h + cell(now.known, l);
        }
        for (int o = 0; o < now.ovens; o++) {
            h = 31 * h + cell(now.ovenKind, o);
            h = 31 * h + cell(now.heat, o);
        }
        h = now.seenOnes.mixInto(h);
        h = now.notes.mixInto(h);
        h = now.marks.mixInto(h);
        h = 31 * h + above;
        return 31 * h + below;
    }

    // ---- refusals

    private int bad() {
        badCalls++;
        return BAD;
    }

    private int badTen() {
        badCalls++;
        return BAD_TEN;
    }

    private int no() {
        noCalls++;
        return NO;
    }

    private int full() {
        fullCalls++;
        return FULL;
    }

    // ---- numbers and rows

    private static boolean within(int number, int low, int high) {
        return number >= low && number <= high;
    }

    private static int bitsBelow(int n) {
        return within(n, 0, 30) ? (1 << n) - 1 : 0;
    }

    private static boolean hasBit(int bits, int n) {
        return within(n, 0, 30) && (bits >> n & 1) == 1;
    }

    /* Rows are read and written here alone, so that no index goes beside one. */
    private static int cell(int[] row, int i) {
        return row != null && i >= 0 && i < row.length ? row[i] : 0;
    }

    private static void put(int[] row, int i, int value) {
        if (row != null && i >= 0 && i < row.length) {
            row[i] = value;
        }
    }

    private static void copyRow(int[] source, int[] target) {
        for (int i = 0; i < source.length && i < target.length; i++) {
            target[i] = source[i];
        }
    }

    private static long commonDivisor(long a, long b) {
        long x = a;
        long y = b;
        for (int i = 0; i < 1000 && y != 0; i++) {
            long rest = x % y;
            x = y;
            y = rest;
        }
        return x;
    }

    /* How many of the first n in a row are alike where most are. */
    private static int mostAlike(int[] row, int n) {
        int most = 0;
        for (int i = 0; i < n; i++) {
            int alike = 0;
            for (int j = 0; j < n; j++) {
                if (cell(row, i) == cell(row, j)) {
                    alike++;
                }
            }
            most = Math.max(most, alike);
        }
        return most;
    }

    // ---- kinds

    private static int lights(int kind, int u, int k, int d) {
        int plain = u > k ? 2 * (u - k) : 0;
        int fib = k == 0 ? plain + 4 : plain;
        switch (kind) {
            case 0:
                return plain;
            case 1:
                return fib;
            case 2:
                return (plain + 1) / 2;
            case 3:
                return k >= 2 ? 0 : fib;
            case 4:
                return d % 7 == 6 ? plain + 6 : plain;
            case 5:
                return d % 10 == 0 ? 2 * fib : fib;
            default:
                return 0;
        }
    }

    private static int taken(int kind, int x, int h) {
        int clay = x < 12 ? x : 12;
        int small = x / 2;
        switch (kind) {
            case 0:
                return x;
            case 1:
                return clay;
            case 2:
                return small;
            case 3:
                return x >= 1 ? small + 4 : small;
            case 4:
                return clay > h / 10 ? clay - h / 10 : 0;
            case 5:
                return x >= 10 ? x + 5 : x;
            default:
                return 0;
        }
    }

    private static int heated(int heat, int more) {
        return heat + more < MOST_HEAT ? heat + more : MOST_HEAT;
    }

    private static int cooled(int heat, int m) {
        return heat > COOLS_BY * m ? heat - COOLS_BY * m : 0;
    }

    private static int hotOne(int heat) {
        return heat >= HOT_FROM ? 1 : 0;
    }

    private static int knownToOneMore(int k) {
        return k < MOST_KNOWN ? k + 1 : MOST_KNOWN;
    }

    // ---- parts of the questions

    private boolean keepsHot(int l, int o, int m) {
        int heat = cell(now.heat, o);
        int k = cell(now.known, l);
        for (int i = 0; i < m; i++) {
            int x = lights(cell(now.lieKind, l), cell(now.untruth, l), k, now.day + i);
            heat = cooled(heated(heat, taken(cell(now.ovenKind, o), x, heat)), 1);
            k = knownToOneMore(k);
            if (heat < HOT_FROM) {
                return false;
            }
        }
        return true;
    }

    private int liesThatFit() {
        int bits = 0;
        for (int l = 0; l < now.lies; l++) {
            if (fitsSeen(cell(now.lieKind, l), cell(now.untruth, l))) {
                bits |= 1 << l;
            }
        }
        return bits;
    }

    private boolean fitsSeen(int kind, int untruth) {
        Table seenOnes = now.seenOnes;
        for (int i = 0; i < seenOnes.size; i++) {
            int ovenKind = cell(now.ovenKind, seenOnes.at(i, 0));
            int x = lights(kind, untruth, seenOnes.at(i, 2), seenOnes.at(i, 3));
            if (taken(ovenKind, x, seenOnes.at(i, 1)) != seenOnes.at(i, 4)) {
                return false;
            }
        }
        return true;
    }

    private int lieKindsThatFit(int l) {
        int bits = 0;
        for (int kind = 0; kind < LIE_KINDS; kind++) {
            if (fitsNotes(kind, l)) {
                bits |= 1 << kind;
            }
        }
        return bits;
    }

    private boolean fitsNotes(int kind, int l) {
        Table notes = now.notes;
        for (int i = 0; i < notes.size; i++) {
            int x = lights(kind, notes.at(i, 1), notes.at(i, 2), notes.at(i, 3));
            if (notes.at(i, 0) == l && x != notes.at(i, 4)) {
                return false;
            }
        }
        return true;
    }

    private int ovenKindsThatFit(int o) {
        int bits = 0;
        for (int kind = 0; kind < OVEN_KINDS; kind++) {
            if (fitsMarks(kind, o)) {
                bits |= 1 << kind;
            }
        }
        return bits;
    }

    private boolean fitsMarks(int kind, int o) {
        Table marks = now.marks;
        for (int i = 0; i < marks.size; i++) {
            int y = taken(kind, marks.at(i, 2), marks.at(i, 1));
            if (marks.at(i, 0) == o && y != marks.at(i, 3)) {
                return false;
            }
        }
        return true;
    }

    private int liesTakenAlike(int o, int lies, int k, int d) {
        int n = 0;
        for (int l = 0; l < now.lies; l++) {
            if (hasBit(lies, l)) {
                int x = lights(cell(now.lieKind, l), cell(now.untruth, l), k, d);
                put(answers, n, taken(cell(now.ovenKind, o), x, cell(now.heat, o)));
                n++;
            }
        }
        return mostAlike(answers, n);
    }

    private int kindsLitAlike(int lieKinds, int u, int k, int d) {
        int n = 0;
        for (int kind = 0; kind < LIE_KINDS; kind++) {
            if (hasBit(lieKinds, kind)) {
                put(answers, n, lights(kind, u, k, d));
                n++;
            }
        }
        return mostAlike(answers, n);
    }

    private int kindsTakingAlike(int ovenKinds, int x, int h) {
        int n = 0;
        for (int kind = 0; kind < OVEN_KINDS; kind++) {
            if (hasBit(ovenKinds, kind)) {
                put(answers, n, taken(kind, x, h));
                n++;
            }
        }
        return mostAlike(answers, n);
    }

    private int gets(int mine, int other) {
        return mine == other ? GOES_OUT : cell(answers, mine);
    }

    private boolean isBestBeside(int mine, int other) {
        for (int l = 0; l < now.lies; l++) {
            if (gets(l, other) > gets(mine, other)) {
                return false;
            }
        }
        return true;
    }

    private static long chanceOf(int came, int lies, int c) {
        long chance = 1;
        for (int l = 0; l < MOST_LIES; l++) {
            if (hasBit(lies, l)) {
                chance *= hasBit(came, l) ? c : 10 - c;
            }
        }
        return chance;
    }

    private int heatBehind(int o, int lies) {
        int heat = cell(now.heat, o);
        for (int l = 0; l < now.lies; l++) {
            // No KIND of OVEN takes any of 0, so a LIE that came true is left out.
            if (hasBit(lies, l)) {
                int x = now.lightsKnownTo(l, cell(now.known, l));
                heat = heated(heat, taken(cell(now.ovenKind, o), x, heat));
            }
        }
        return heat;
    }

    private boolean hasImage(int i) {
        return i >= 0 && i < images.length && i < kept.length && images[i] != null;
    }

    private int countOf(int what) {
        switch (what) {
            case 0:
                return now.lies;
            case 1:
                return now.ovens;
            case 2:
                return now.hotOvens();
            case 3:
                return now.day;
            case 4:
                return now.heatOfAll();
            case 5:
                return now.seenOnes.size;
            case 6:
                return now.notes.size;
            case 7:
                return now.marks.size;
            case 8:
                return now.past.size;
            default:
                return reader.length;
        }
    }

    /* All that an IMAGE keeps. */
    private static final class Town {
        private int lies;
        private int ovens;
        private int day;
        private final int[] lieKind = new int[MOST_LIES];
        private final int[] untruth = new int[MOST_LIES];
        private final int[] known = new int[MOST_LIES];
        private final int[] ovenKind = new int[MOST_OVENS];
        private final int[] heat = new int[MOST_OVENS];
        private final Table seenOnes = new Table(MOST_SEEN, 5);
        private final Table notes = new Table(MOST_NOTES, 5);
        private final Table marks = new Table(MOST_MARKS, 4);
        private final Past past = new Past();

        private void wipe() {
            lies = 0;
            ovens = 0;
            day = 0;
            seenOnes.wipe();
            notes.wipe();
            marks.wipe();
            past.wipe();
        }

        private void copyFrom(Town other) {
            lies = other.lies;
            ovens = other.ovens;
            day = other.day;
            copyRow(other.lieKind, lieKind);
            copyRow(other.untruth, untruth);
            copyRow(other.known, known);
            copyRow(other.ovenKind, ovenKind);
            copyRow(other.heat, heat);
            seenOnes.copyFrom(other.seenOnes);
            notes.copyFrom(other.notes);
            marks.copyFrom(other.marks);
            past.copyFrom(other.past);
        }

        private boolean hasLie(int l) {
            return l >= 0 && l < lies;
        }

        private boolean hasOven(int o) {
            return o >= 0 && o < ovens;
        }

        private int addLie(int kind, int u) {
            put(lieKind, lies, kind);
            put(untruth, lies, u);
            put(known, lies, 0);
            lies++;
            return lies - 1;
        }

        private int addOven(int kind) {
            put(ovenKind, ovens, kind);
            put(heat, ovens, 0);
            ovens++;
            return ovens - 1;
        }

        private int lightsKnownTo(int l, int k) {
            return lights(cell(lieKind, l), cell(untruth, l), k, day);
        }

        private int takenNow(int o, int l) {
            int x = lights(cell(lieKind, l), cell(untruth, l), cell(known, l), day);
            return taken(cell(ovenKind, o), x, cell(heat, o));
        }

        private void sayInto(int l, int o) {
            put(heat, o, heated(cell(heat, o), takenNow(o, l)));
            put(known, l, knownToOneMore(cell(known, l)));
        }

        private void passDay() {
            for (int o = 0; o < ovens; o++) {
                put(heat, o, cooled(cell(heat, o), 1));
            }
            day++;
        }

        private void passDays(int n) {
            for (int i = 0; i < n && day < LAST_DAY; i++) {
                passDay();
            }
        }

        private int hotOvens() {
            int hot = 0;
            for (int o = 0; o < ovens; o++) {
                hot += hotOne(cell(heat, o));
            }
            return hot;
        }

        private int heatOfAll() {
            int sum = 0;
            for (int o = 0; o < ovens; o++) {
                sum += cell(heat, o);
            }
            return sum;
        }
    }

    /* Rows of numbers as they were told: SEEN ones, NOTES, MARKS. */
    private static final class Table {
        private final int most;
        private final int width;
        private final int[] cells;
        private int size;

        private Table(int most, int width) {
            this.most = Math.max(0, most);
            this.width = Math.max(0, width);
            cells = new int[this.most * this.width];
        }

        private boolean isFull() {
            return size >= most;
        }

        private int add(int a, int b, int c, int d, int e) {
            int first = size * width;
            put(cells, first, a);
            put(cells, first + 1, b);
            put(cells, first + 2, c);
            put(cells, first + 3, d);
            if (width > 4) {
                put(cells, first + 4, e);
            }
            size++;
            return size;
        }

        private int at(int row, int column) {
            return cell(cells, row * width + column);
        }

        private int wipe() {
            int before = size;
            size = 0;
            return before;
        }

        private void copyFrom(Table other) {
            size = other.size;
            copyRow(other.cells, cells);
        }

        private long mixInto(long before) {
            long h = before;
            for (int i = 0; i < size * width; i++) {
                h = 31 * h + cell(cells, i);
            }
            return h;
        }
    }

    /* What may be undone: HEAT, KNOWN and the DAY, the oldest ones first. */
    private static final class Past {
        private static final int WIDTH = MOST_OVENS + MOST_LIES + 1;

        private final int[] cells = new int[MOST_UNDONE * WIDTH];
        private int size;

        private void wipe() {
            size = 0;
        }

        private void copyFrom(Past other) {
            size = other.size;
            copyRow(other.cells, cells);
        }

        private void remember(Town town) {
            if (size >= MOST_UNDONE) {
                dropOldest();
            }
            int first = size * WIDTH;
            for (int o = 0; o < MOST_OVENS; o++) {
                put(cells, first + o, cell(town.heat, o));
            }
            for (int l = 0; l < MOST_LIES; l++) {
                put(cells, first + MOST_OVENS + l, cell(town.known, l));
            }
            put(cells, first + MOST_OVENS + MOST_LIES, town.day);
            size++;
        }

        private void dropOldest() {
            for (int i = WIDTH; i < cells.length; i++) {
                cells[i - WIDTH] = cells[i];
            }
            size = MOST_UNDONE - 1;
        }

        private void takeBack(Town town) {
            if (size > 0) {
                size--;
                int first = size * WIDTH;
                for (int o = 0; o < MOST_OVENS; o++) {
                    put(town.heat, o, cell(cells, first + o));
                }
                for (int l = 0; l < MOST_LIES; l++) {
                    put(town.known, l, cell(cells, first + MOST_OVENS + l));
                }
                town.day = cell(cells, first + MOST_OVENS + MOST_LIES);
            }
        }
    }

    /* Looks for the first of the shortest rows of SAYINGS by which one OVEN is HOT. */
    private static final class FewSearch {
        private final Town town;
        private final int[] row = new int[MOST_SAYINGS];
        private final int[] known = new int[MOST_LIES];
        private int ovenKind;
        private int mostTaken;

        private FewSearch(Town town) {
            this.town = town;
        }

        private int fewest(int o) {
            ovenKind = cell(town.ovenKind, o);
            copyRow(town.known, known);
            mostTaken = 0;
            for (int l = 0; l < town.lies; l++) {
                mostTaken = Math.max(mostTaken, town.takenNow(o, l));
            }
            for (int length = 0; length <= MOST_SAYINGS; length++) {
                if (reaches(this, 0, length, cell(town.heat, o))) {
                    return length;
                }
            }
            return NONE;
        }

        private static boolean reaches(FewSearch search, int at, int length, int heat) {
            if (at >= length || at >= MOST_SAYINGS) {
                return heat >= HOT_FROM;
            }
            // Heat and hearers only make a LIE weaker, so no later SAYING brings more than the best first one.
            if (heat + (length - at) * search.mostTaken < HOT_FROM) {
                return false;
            }
            for (int l = 0; l < search.town.lies; l++) {
                int k = cell(search.known, l);
                int more = taken(search.ovenKind, search.town.lightsKnownTo(l, k), heat);
                put(search.row, at, l);
                put(search.known, l, knownToOneMore(k));
                boolean found = reaches(search, at + 1, length, heated(heat, more));
                put(search.known, l, k);
                if (found) {
                    return true;
                }
            }
            return false;
        }
    }

    /* Looks for the first of the best ways to say one LIE or none into each OVEN. */
    private static final class RoundSearch {
        private final Town town;
        private final int[] way = new int[MOST_OVENS];
        private final int[] best = new int[MOST_OVENS];
        private final int[] known = new int[MOST_LIES];
        private final int[] hotAhead = new int[MOST_OVENS + 1];
        private final int[] heatAhead = new int[MOST_OVENS + 1];
        private int bestHot;
        private int bestHeat;

        private RoundSearch(Town town) {
            this.town = town;
        }

        private void search() {
            bestHot = NONE;
            bestHeat = NONE;
            copyRow(town.known, known);
            hopeAhead();
            place(this, 0, 0, 0);
        }

        /* What the OVENS from each one on could have at most, if nobody more KNEW a LIE by the others. */
        private void hopeAhead() {
            put(hotAhead, town.ovens, 0);
            put(heatAhead, town.ovens, 0);
            for (int o = town.ovens - 1; o >= 0; o--) {
                int hottest = cell(town.heat, o);
                for (int l = 0; l < town.lies; l++) {
                    hottest = Math.max(hottest, heated(cell(town.heat, o), town.takenNow(o, l)));
                }
                put(hotAhead, o, cell(hotAhead, o + 1) + hotOne(hottest));
                put(heatAhead, o, cell(heatAhead, o + 1) + hottest);
            }
        }

        private boolean isHopeless(int o, int hot, int heat) {
            int mostHot = hot + cell(hotAhead, o);
            return mostHot < bestHot || mostHot == bestHot && heat + cell(heatAhead, o) <= bestHeat;
        }

        private static void place(RoundSearch search, int o, int hot, int heat) {
            // Ways come in their order, so only a better one takes the place of the first.
            if (search.isHopeless(o, hot, heat)) {
                return;
            }
            if (o >= search.town.ovens || o >= MOST_OVENS) {
                search.bestHot = hot;
                search.bestHeat = heat;
                copyRow(search.way, search.best);
                return;
            }
            int before = cell(search.town.heat, o);
            put(search.way, o, NONE);
            place(search, o + 1, hot + hotOne(before), heat + before);
            for (int l = 0; l < search.town.lies; l++) {
                int k = cell(search.known, l);
                int x = search.town.lightsKnownTo(l, k);
                int behind = heated(before, taken(cell(search.town.ovenKind, o), x, before));
                put(search.way, o, l);
                put(search.known, l, knownToOneMore(k));
                place(search, o + 1, hot + hotOne(behind), heat + behind);
                put(search.known, l, k);
            }
        }
    }

    /* THE TEXT, and how it is read TOKEN by TOKEN. */
    private static final class Reader {
        private static final int END = 0, WORD = 1, NUMBER = 2, STOP = 3, WRONG = 4;

        private final char[] bytes = new char[MOST_BYTES];
        private int length;
        private int place;
        private int start;
        private int token;
        private int value;

        private int append(int c) {
            if (length >= 0 && length < bytes.length) {
                bytes[length] = (char) c;
                length++;
            }
            return length;
        }

        /* How many ITEMS, or -10 less the FAULT. */
        private int readInto(Town town) {
            place = 0;
            step();
            if (!isWord("town")) {
                return fault();
            }
            step();
            if (token != STOP) {
                return fault();
            }
            int items = 1;
            step();
            while (token != END && items <= MOST_BYTES) {
                if (!readItem(town)) {
                    return fault();
                }
                step();
                if (token != STOP) {
                    return fault();
                }
                items++;
                step();
            }
            return items;
        }

        /* The TOKEN that can not stand there is always the last one that was stepped to. */
        private int fault() {
            return -10 - start;
        }

        private boolean readItem(Town town) {
            if (isWord("lie")) {
                return readLie(town);
            }
            if (isWord("oven")) {
                return readOven(town);
            }
            if (isWord("say")) {
                return readSaying(town);
            }
            if (isWord("forget")) {
                return readForgetting(town);
            }
            if (isWord("days")) {
                return readDays(town);
            }
            return false;
        }

        private boolean readLie(Town town) {
            if (town.lies >= MOST_LIES || !stepToNumber(0, LIE_KINDS - 1)) {
                return false;
            }
            int kind = value;
            if (!stepToNumber(1, MOST_UNTRUTH)) {
                return false;
            }
            town.addLie(kind, value);
            return true;
        }

        private boolean readOven(Town town) {
            if (town.ovens >= MOST_OVENS || !stepToNumber(0, OVEN_KINDS - 1)) {
                return false;
            }
            town.addOven(value);
            return true;
        }

        private boolean readSaying(Town town) {
            if (!stepToNumber(0, town.lies - 1)) {
                return false;
            }
            int l = value;
            if (!stepToNumber(0, town.ovens - 1)) {
                return false;
            }
            town.sayInto(l, value);
            return true;
        }

        private boolean readForgetting(Town town) {
            if (!stepToNumber(0, town.lies - 1)) {
                return false;
            }
            put(town.known, value, 0);
            return true;
        }

        private boolean readDays(Town town) {
            if (!stepToNumber(1, 99)) {
                return false;
            }
            town.passDays(value);
            return true;
        }

        private boolean stepToNumber(int low, int high) {
            step();
            return token == NUMBER && within(value, low, high);
        }

        private void step() {
            while (place < length && byteAt(place) == ' ') {
                place++;
            }
            start = place;
            value = 0;
            int c = byteAt(place);
            if (c < 0) {
                token = END;
            } else if (isLetter(c)) {
                token = WORD;
                while (place < length && isLetter(byteAt(place))) {
                    place++;
                }
            } else if (isFigure(c)) {
                while (place < length && isFigure(byteAt(place))) {
                    value = 10 * value + byteAt(place) - '0';
                    place++;
                }
                token = place - start <= 2 ? NUMBER : WRONG;
            } else {
                token = c == ';' ? STOP : WRONG;
                place++;
            }
        }

        private int byteAt(int i) {
            return i >= 0 && i < length && i < bytes.length ? bytes[i] : NONE;
        }

        private static boolean isLetter(int c) {
            return c >= 'a' && c <= 'z';
        }

        private static boolean isFigure(int c) {
            return c >= '0' && c <= '9';
        }

        private boolean isWord(String word) {
            if (token != WORD || place - start != word.length()) {
                return false;
            }
            for (int i = 0; i < word.length(); i++) {
                if (byteAt(start + i) != word.charAt(i)) {
                    return false;
                }
            }
            return true;
        }
    }
}
