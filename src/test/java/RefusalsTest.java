import java.util.function.Supplier;

/*
 * Each number of each call: the last one that is still told and the first one that is not, on both sides, in an empty
 * town (there no LIE and no OVEN is told), in one with some of everything and in a full one.
 */
public final class RefusalsTest {
    private interface Call {
        long on(OvenLies s, int[] n);
    }

    private static final int MIN = Integer.MIN_VALUE, MAX = Integer.MAX_VALUE;

    private static final Edges edges = new Edges();

    private static Supplier<OvenLies> maker;
    private static String town;
    private static int lies, ovens;

    private static int[] range(int low, int high) {
        return new int[] {low, high};
    }

    private static int[] aLie() {
        return range(0, lies - 1);
    }

    private static int[] anOven() {
        return range(0, ovens - 1);
    }

    private static int[][] of(int[]... ranges) {
        return ranges;
    }

    private static boolean anyIsEmpty(int[][] ranges) {
        for (int[] range : ranges) if (range[0] > range[1]) return true;
        return false;
    }

    /* All at their lowest or highest, but one. */
    private static int[] numbers(int[][] ranges, boolean high, int place, int number) {
        int[] n = new int[ranges.length];
        for (int i = 0; i < n.length; i++) n[i] = Math.max(ranges[i][0], ranges[i][high ? 1 : 0]);
        n[place] = number;
        return n;
    }

    private static String shown(String name, int[] n) {
        return name + java.util.Arrays.toString(n) + " in " + town;
    }

    private static void isRefused(String name, int answer, Call call, int[] n) {
        edges.refused(shown(name, n), maker, s -> call.on(s, n), answer, Edges.BAD);
    }

    private static void isTold(String name, int answer, Call call, int[] n) {
        OvenLies s = maker.get();
        edges.is(shown(name, n) + " is told", call.on(s, n) == answer ? 0 : 1, 1);
        edges.is(shown(name, n) + " is told, STATUS", s.status(0), maker.get().status(0));
    }

    private static void call(String promise, String name, String names, int[][] ranges, int answer, Call call) {
        String[] words = names.split(", ");
        for (int i = 0; i < ranges.length; i++) {
            int low = ranges[i][0], high = ranges[i][1];
            edges.sentence(promise, name + ": " + words[i] + " " + low + " .. " + high);
            for (boolean side : new boolean[] {false, true}) {
                isRefused(name, answer, call, numbers(ranges, side, i, low - 1));
                isRefused(name, answer, call, numbers(ranges, side, i, MIN));
                if (high < MAX) isRefused(name, answer, call, numbers(ranges, side, i, high + 1));
                if (high < MAX) isRefused(name, answer, call, numbers(ranges, side, i, MAX));
                if (!anyIsEmpty(ranges)) {
                    isTold(name, answer, call, numbers(ranges, side, i, low));
                    isTold(name, answer, call, numbers(ranges, side, i, high));
                }
            }
        }
        edges.sentence(promise, name + ": all numbers are not as told, but it is one call");
        int[] worst = new int[ranges.length];
        for (int i = 0; i < worst.length; i++) worst[i] = MIN;
        isRefused(name, answer, call, worst);
    }

    private static void townCalls() {
        // Of the full town these are BAD ahead of FULL; a number as told is for the others.
        int[] kind = range(0, 5);
        call("3", "lie", "KIND, UNTRUTH", of(kind, range(1, 9)), -2, (s, n) -> s.lie(n[0], n[1]));
        call("4", "oven", "KIND", of(kind), -2, (s, n) -> s.oven(n[0]));
        call("5", "type", "a byte", of(range(0, 127)), -2, (s, n) -> s.type(n[0]));
        call("8", "days", "n", of(range(1, 60)), -2, (s, n) -> s.days(n[0]));
        call("9", "says", "LIE, OVEN", of(aLie(), anOven()), -2, (s, n) -> s.says(n[0], n[1]));
        call("10", "forgets", "LIE", of(aLie()), -2, (s, n) -> s.forgets(n[0]));
        call("12", "of", "LIE, what", of(aLie(), range(0, 3)), -2, (s, n) -> s.of(n[0], n[1]));
        call("13", "about", "OVEN, what", of(anOven(), range(0, 2)), -2, (s, n) -> s.about(n[0], n[1]));
    }

    private static void hotCalls() {
        call("14", "takes", "OVEN, LIE", of(anOven(), aLie()), -2, (s, n) -> s.takes(n[0], n[1]));
        call("15", "then", "OVEN, m", of(anOven(), range(0, 60)), -2, (s, n) -> s.then(n[0], n[1]));
        call("16", "cold", "OVEN", of(anOven()), -2, (s, n) -> s.cold(n[0]));
        call("17", "few", "OVEN, k", of(anOven(), range(-1, MAX)), -10, (s, n) -> s.few(n[0], n[1]));
        call("18", "round", "OVEN", of(range(-2, ovens - 1)), -10, (s, n) -> s.round(n[0]));
        call("19", "keep", "OVEN, m", of(anOven(), range(1, 9)), -2, (s, n) -> s.keep(n[0], n[1]));
    }

    private static void whichCalls() {
        int[] h = range(0, 99), k = range(0, 9), d = range(0, 99), x = range(0, 60);
        call("20", "seen", "OVEN, HEAT, KNOWN, DAY, took", of(anOven(), h, k, d, x), -2,
            (s, n) -> s.seen(n[0], n[1], n[2], n[3], n[4]));
        call("22", "tell", "OVEN", of(anOven()), -2, (s, n) -> s.tell(n[0]));
        call("23", "note", "LIE, UNTRUTH, KNOWN, DAY, LIT by", of(aLie(), range(1, 9), k, d, x), -2,
            (s, n) -> s.note(n[0], n[1], n[2], n[3], n[4]));
        call("24", "mark", "OVEN, HEAT, LIGHTS, took", of(anOven(), h, x, x), -2,
            (s, n) -> s.mark(n[0], n[1], n[2], n[3]));
        call("25", "forget", "what", of(range(0, 2)), -2, (s, n) -> s.forget(n[0]));
        call("26", "is", "LIE", of(aLie()), -2, (s, n) -> s.is(n[0]));
        call("27", "look", "LIE", of(aLie()), -2, (s, n) -> s.look(n[0]));
        call("28", "kinds", "OVEN", of(anOven()), -2, (s, n) -> s.kinds(n[0]));
        call("29", "ask", "OVEN", of(anOven()), -2, (s, n) -> s.ask(n[0]));
        call("30", "arch", "OVEN, k", of(anOven(), range(-1, MAX)), -10, (s, n) -> s.arch(n[0], n[1]));
        call("31", "trues", "OVEN, LIES, c", of(anOven(), range(0, (1 << lies) - 1), range(0, 10)), -2,
            (s, n) -> s.trues(n[0], n[1], n[2]));
        call("32", "years", "SEED, n", of(range(0, 999999), range(0, 60)), -2, (s, n) -> s.years(n[0], n[1]));
    }

    private static void thereCalls() {
        call("33", "part", "what", of(range(0, 1)), -2, (s, n) -> s.part(n[0]));
        call("34", "image", "IMAGE", of(range(0, 1)), -2, (s, n) -> s.image(n[0]));
        call("35", "from", "IMAGE", of(range(0, 1)), -2, (s, n) -> s.from(n[0]));
        call("36", "status", "what", of(range(0, 2)), -1, (s, n) -> s.status(n[0]));
        call("37", "count", "what", of(range(0, 9)), -2, (s, n) -> s.count(n[0]));
    }

    private static void allCalls(String name, Supplier<OvenLies> towns) {
        town = name;
        maker = towns;
        lies = towns.get().count(0);
        ovens = towns.get().count(1);
        townCalls();
        hotCalls();
        whichCalls();
        thereCalls();
    }

    public static void main(String[] args) {
        allCalls("an empty town", Towns::empty);
        allCalls("a town of some", Towns::some);
        allCalls("a full town", Towns::full);
        allCalls("a town of one each", () -> Towns.with(Towns.lies(5, 9), 0));
        edges.end();
    }
}
