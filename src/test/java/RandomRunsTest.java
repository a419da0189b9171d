import java.util.Random;

/** Runs of calls by chance (the same each time), on the class and on the plain model beside it. */
public final class RandomRunsTest {
    private static final String[] NAMES = {"write", "wipe", "fault", "lay", "sat", "antenna", "seen", "pass", "rate",
        "give", "why", "take", "out", "undo", "best", "plan", "adopt", "bound", "store", "over", "count"};
    private static final int[] WEIGHTS = {1, 1, 1, 1, 3, 4, 2, 6, 3,
        30, 6, 6, 7, 7, 5, 5, 3, 2, 6, 3, 6};

    private final Random chance;
    private final Check check;
    private final int run;
    private final StationPasses x = new StationPasses();
    private final PlainModel m = new PlainModel();
    private int calls;

    private RandomRunsTest(int run, Check check) {
        this.run = run;
        this.chance = new Random(run);
        this.check = check;
    }

    public static void main(String[] args) {
        int runs = args.length > 0 ? Integer.parseInt(args[0]) : 400;
        Check check = new Check();
        for (int run = 1; run <= runs && check.failures() < 20; run++) {
            new RandomRunsTest(run, check).go();
        }
        check.end();
    }

    private void go() {
        if (chance.nextInt(5) > 0) {
            tellText();
        }
        int most = calls + 60 + chance.nextInt(60);
        while (calls < Math.min(most, 512)) {
            if (chance.nextInt(100) == 0 && calls < 300) {
                tellText();
            }
            oneCall(NAMES[pickName()]);
        }
    }

    private int pickName() {
        int sum = 0;
        for (int w : WEIGHTS) sum += w;
        int left = chance.nextInt(sum);
        int i = 0;
        while (left >= WEIGHTS[i]) {
            left -= WEIGHTS[i];
            i++;
        }
        return i;
    }

    private void tellText() {
        due("wipe", x.wipe(), m.wipe());
        String text = randomText();
        for (int i = 0; i < text.length(); i++) {
            int letter = text.charAt(i);
            due("write(" + letter + ")", x.write(letter), m.write(letter));
        }
        due("fault of " + text, x.fault(), m.fault());
        due("lay of " + text, x.lay(), m.lay());
    }

    private String randomText() {
        StringBuilder text = new StringBuilder();
        int sats = 1 + chance.nextInt(4), stations = 1 + chance.nextInt(3), antennas = 1 + chance.nextInt(4);
        boolean dense = chance.nextBoolean();
        for (int j = 0; j < stations; j++) {
            text.append("g" + number(0, dense ? 9 : 59) + "," + number(1, dense ? 3 : 9) + ";");
        }
        for (int i = 0; i < sats; i++) {
            text.append("s" + number(0, dense ? 9 : 59) + "," + number(6, dense ? 15 : 60) + "," + number(0, 1) + ","
                + number(1, chance.nextBoolean() ? 99 : 12) + "," + number(0, 9) + ";");
        }
        for (int a = 0; a < antennas; a++) {
            text.append("a" + number(0, stations - 1) + "," + number(chance.nextInt(3), 2) + "," + number(0, dense ? 1 : 5) + ";");
        }
        if (chance.nextInt(8) == 0) {
            int place = chance.nextInt(text.length());
            text.setCharAt(place, ";,0159sga x".charAt(chance.nextInt(11)));
        }
        return text.toString();
    }

    private String number(int low, int high) {
        int n = chance.nextInt(6) == 0 ? (chance.nextBoolean() ? low : high) : low + chance.nextInt(high - low + 1);
        return n < 10 && chance.nextInt(9) == 0 ? "0" + n : "" + n;
    }

    private void due(String call, int got, int want) {
        calls++;
        check.due("run " + run + ", call " + calls + ": " + call, got, want);
    }

    /** Mostly a number that there is, now and then one beside. */
    private int some(int most) {
        return chance.nextInt(12) == 0 ? chance.nextInt(most + 4) - 2 : chance.nextInt(Math.max(1, most));
    }

    private void oneCall(String name) {
        int p = some(m.count(3)), a = some(m.count(2)), i = some(m.count(0)), t = some(60);
        int law = some(2), c = some(7), k = chance.nextInt(12) - 5, what = some(7);
        switch (name) {
            case "write": { int l = chance.nextInt(150) - 10; due("write(" + l + ")", x.write(l), m.write(l)); break; }
            case "wipe": due("wipe()", x.wipe(), m.wipe()); break;
            case "fault": due("fault()", x.fault(), m.fault()); break;
            case "lay": if (chance.nextInt(8) == 0) due("lay()", x.lay(), m.lay()); break;
            case "sat": due("sat(" + i + "," + what + ")", x.sat(i, what), m.sat(i, what)); break;
            case "antenna": due("antenna(" + a + "," + what + ")", x.antenna(a, what), m.antenna(a, what)); break;
            case "seen": { int j = some(m.count(1)); due("seen(" + i + "," + j + "," + t + ")", x.seen(i, j, t), m.seen(i, j, t)); break; }
            case "pass": due("pass(" + p + "," + what + ")", x.pass(p, what), m.pass(p, what)); break;
            case "rate": { int s = slotOf(p, t); due("rate(" + p + "," + s + ")", x.rate(p, s), m.rate(p, s)); break; }
            case "give": { int b = fittingOr(p, a); due("give(" + p + "," + b + ")", x.give(p, b), m.give(p, b)); break; }
            case "why": { int b = fittingOr(p, a); due("why(" + p + "," + b + ")", x.why(p, b), m.why(p, b)); break; }
            case "take": due("take(" + p + ")", x.take(p), m.take(p)); break;
            case "out": { int from = edgeOf(t), to = edgeOf(some(60)); due("out(" + a + "," + from + "," + to + ")", x.out(a, from, to), m.out(a, from, to)); break; }
            case "undo": due("undo()", x.undo(), m.undo()); break;
            case "best": bestCalls(a, k + 2); break;
            case "plan": planCalls(law, p, c, k); break;
            case "adopt": due("adopt(" + law + "," + p + "," + c + ")", x.adopt(law, p, c), m.adopt(law, p, c)); break;
            case "bound": due("bound(" + p + ")", x.bound(p), m.bound(p)); break;
            case "store": { int w = some(3); due("store(" + i + "," + t + "," + w + ")", x.store(i, t, w), m.store(i, t, w)); break; }
            case "over": due("over(" + i + ")", x.over(i), m.over(i)); break;
            default: { int w = some(10); due("count(" + w + ")", x.count(w), m.count(w)); break; }
        }
    }

    private int slotOf(int p, int t) {
        return m.pass(p, 0) >= 0 && chance.nextInt(4) > 0 ? m.pass(p, 0) + chance.nextInt(m.pass(p, 1) - m.pass(p, 0) + 2) : t;
    }

    /** A slot at an end of a pass or beside it, or this one. */
    private int edgeOf(int t) {
        int passes = m.count(3);
        return passes > 0 && chance.nextBoolean()
            ? m.pass(chance.nextInt(passes), chance.nextInt(2)) + chance.nextInt(3) - 1 : t;
    }

    private int fittingOr(int p, int a) {
        int bits = m.pass(p, 6);
        return bits > 0 && chance.nextInt(5) > 0 ? Integer.numberOfTrailingZeros(bits) : a;
    }

    private void bestCalls(int a, int k) {
        if (m.canTryAllSets(a)) {
            due("best(" + a + "," + k + ")", x.best(a, k), m.best(a, k));
            due("best(" + a + ",-1)", x.best(a, -1), m.best(a, -1));
        }
    }

    private void planCalls(int law, int p, int c, int k) {
        for (int j = k; j <= Math.min(k + 3, 6); j++) {
            due("plan(" + law + "," + p + "," + c + "," + j + ")", x.plan(law, p, c, j), m.plan(law, p, c, j));
        }
    }
}
