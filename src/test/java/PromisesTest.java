/** One test or more for each promise of the document, with answers worked out by hand from its words. */
public final class PromisesTest {
    private static final int BAD = -1, NO = -2, FULL = -3, NONE = -4;
    private static final int[] FAR = {Integer.MIN_VALUE, -1000, 1000, Integer.MAX_VALUE};

    private static final Check CHECK = new Check();

    public static void main(String[] args) {
        newObject();
        write();
        wipe();
        fault();
        faultLimits();
        lay();
        sat();
        antenna();
        seen();
        pass();
        passLimits();
        rate();
        give();
        why();
        whyLowest();
        take();
        out();
        undo();
        undoKinds();
        best();
        bestOfSeveral();
        planByMost();
        planByLeast();
        planOfSeveral();
        planWindow();
        adopt();
        bound();
        store();
        over();
        count();
        nothingLaid();
        wrongNumbers();
        exampleOfReadme();
        CHECK.end();
    }

    private static void due(String call, int got, int want) {
        CHECK.due(call, got, want);
    }

    private static void tell(StationPasses x, String text) {
        x.wipe();
        for (int i = 0; i < text.length(); i++) {
            x.write(text.charAt(i));
        }
    }

    private static StationPasses laid(String text) {
        StationPasses x = new StationPasses();
        tell(x, text);
        due("lay of " + text, x.lay() >= 0 ? 1 : 0, 1);
        return x;
    }

    private static void plan(String name, StationPasses x, int law, int f, int c, int[] want) {
        for (int n = 0; n < want.length; n++) {
            int k = n < 4 ? -1 - n : n - 4;
            due(name + ": plan(" + law + "," + f + "," + c + "," + k + ")", x.plan(law, f, c, k), want[n]);
        }
    }

    // Promise 1
    private static void newObject() {
        StationPasses x = new StationPasses();
        int[][] sats = {{0, 20, 0, 30, 1, 6, 0}, {7, 25, 1, 40, 2, 5, 0}, {13, 18, 1, 20, 1, 8, 0}};
        int[][] antennas = {{0, 2, 1, NONE, NONE, 0, 0}, {0, 0, 0, NONE, NONE, 0, 0}, {1, 1, 2, NONE, NONE, 0, 0}};
        for (int i = 0; i < 3; i++) {
            for (int what = 0; what < 7; what++) {
                due("new: sat(" + i + "," + what + ")", x.sat(i, what), sats[i][what]);
                due("new: antenna(" + i + "," + what + ")", x.antenna(i, what), antennas[i][what]);
            }
        }
        int[] counts = {3, 2, 3, 19, 0, 0, 0, 0, 300, 0};
        for (int what = 0; what < 10; what++) {
            due("new: count(" + what + ")", x.count(what), counts[what]);
        }
        due("new: undo()", x.undo(), NO);
        due("new: fault()", x.fault(), NONE);
        due("new: wipe()", x.wipe(), 0);
    }

    // Promise 2
    private static void write() {
        StationPasses x = new StationPasses();
        due("write(31)", x.write(31), BAD);
        due("write(127)", x.write(127), BAD);
        due("write(-1)", x.write(-1), BAD);
        due("write(115 + 65536)", x.write(115 + 65536), BAD);
        due("write(32)", x.write(32), 1);
        due("write(126)", x.write(126), 2);
        for (int n = 3; n <= 200; n++) {
            due("write, the " + n + "th", x.write('x'), n);
        }
        due("write, the 201st", x.write('x'), FULL);
        due("write, wrong and full", x.write(31), BAD);
        due("count(6) of a full text", x.count(6), 200);
    }

    // Promise 3
    private static void wipe() {
        StationPasses x = new StationPasses();
        tell(x, "s1");
        due("wipe of 2", x.wipe(), 2);
        due("wipe of none", x.wipe(), 0);
        due("count(6) when wiped", x.count(6), 0);
        due("count(3) when wiped", x.count(3), 19);
        due("write when wiped", x.write('g'), 1);
    }

    private static void faultOf(String text, int want) {
        StationPasses x = new StationPasses();
        tell(x, text);
        due("fault of " + text, x.fault(), want);
        due("lay of " + text, x.lay() == NO ? NO : 0, want == NONE ? 0 : NO);
    }

    // Promise 4
    private static void fault() {
        String sat = "s0,6,0,1,0;";
        String station = "g0,1;";
        String antenna = "a0,0,0;";
        faultOf("", NONE);
        faultOf(sat, NONE);
        faultOf("s00,06,01,09,09;", NONE);
        faultOf(sat + sat + sat + sat, NONE);
        faultOf(sat + sat + sat + sat + sat, 44);
        faultOf(station + station + station, NONE);
        faultOf(station + station + station + station, 15);
        faultOf(station + antenna + antenna + antenna + antenna, NONE);
        faultOf(station + antenna + antenna + antenna + antenna + antenna, 33);
        faultOf(antenna + station, 0);
        faultOf(station + "a1,0,0;" + station, 5);
        faultOf(station + station + station + "a2,0,0;", NONE);
        faultOf(station + antenna + sat + station + "a1,0,0;", NONE);
        faultOf(sat + ";", 11);
        faultOf(sat + " ", 11);
        faultOf(sat + sat.substring(0, 10), 11);
        faultOf(sat + "s", 11);
        faultOf(sat + "x0,6,0,1,0;", 11);
        faultOf("S0,6,0,1,0;", 0);
        faultOf("s0,6,0,1;", 0);
        faultOf("s0,6,0,1,0,0;", 0);
        faultOf("s0,6,0,1,;", 0);
        faultOf("s,6,0,1,0;", 0);
        faultOf("s 0,6,0,1,0;", 0);
        faultOf("s0;6;0;1;0;", 0);
        faultOf("s0,6,0,1,0,", 0);
        faultOf("s-1,6,0,1,0;", 0);
        faultOf("s000,6,0,1,0;", 0);
        faultOf("s0,6,0,1,000;", 0);
        faultOf("g0,1,0;", 0);
        faultOf("g0;", 0);
        faultOf(station + "a0,0;", 5);
        faultOf(station + "a0,0,0,0;", 5);
        faultOf(sat + "g0,0;" + sat + ";", 11);
        StationPasses x = new StationPasses();
        tell(x, sat);
        tell(x, sat.substring(0, 10));
        due("letters of a wiped text are no more", x.fault(), 0);
    }

    private static void faultLimits() {
        String[] heads = {"s", "s0,", "s0,6,", "s0,6,0,", "s0,6,0,1,", "g", "g0,", "g0,1;a", "g0,1;a0,", "g0,1;a0,0,"};
        String[] tails = {",6,0,1,0;", ",0,1,0;", ",1,0;", ",0;", ";", ",1;", ";", ",0,0;", ",0;", ";"};
        int[] lows = {0, 6, 0, 1, 0, 0, 1, 0, 0, 0};
        int[] highs = {59, 60, 1, 99, 9, 59, 9, 0, 2, 5};
        for (int n = 0; n < heads.length; n++) {
            int place = heads[n].startsWith("g0,1;") ? 5 : 0;
            for (int number = 0; number <= 100; number++) {
                boolean allowed = number >= lows[n] && number <= highs[n];
                faultOf(heads[n] + number + tails[n], allowed ? NONE : place);
            }
        }
    }

    // Promise 5
    private static void lay() {
        StationPasses x = new StationPasses();
        x.give(0, 0);
        x.out(1, 0, 59);
        tell(x, "s0,6,0,1,0");
        due("lay of a fault", x.lay(), NO);
        due("a fault changes no contact", x.count(4), 1);
        due("a fault changes no pass", x.count(3), 19);
        due("a fault leaves what can be undone", x.count(5), 2);
        due("a fault leaves what is out", x.antenna(1, 3), 0);
        x.write(';');
        due("fault() lays nothing", x.fault(), NONE);
        due("fault() lays nothing", x.count(3), 19);
        due("lay without a station", x.lay(), 0);
        due("the text stays", x.count(6), 11);
        due("no contact when laid", x.count(4), 0);
        due("none undone behind laid", x.undo(), NO);
        tell(x, "s0,20,0,30,1;g0,6;a0,0,0;");
        due("lay", x.lay(), 3);
        x.give(0, 0);
        x.out(0, 50, 59);
        due("lay once more", x.lay(), 3);
        due("no contact when laid", x.pass(0, 5), NONE);
        due("not out when laid", x.antenna(0, 3), NONE);
        due("none undone behind laid", x.count(5), 0);
        x.wipe();
        due("lay of an empty text", x.lay(), 0);
        due("no sats", x.count(0), 0);
        tell(x, "s0,6,0,1,0;s1,6,0,1,0;s2,6,0,1,0;s3,6,0,1,0;g0,1;g1,1;g2,1;");
        due("lay of more passes than there may be", x.lay(), 24);
    }

    // Promise 6
    private static void sat() {
        StationPasses x = new StationPasses();
        x.give(0, 1);
        x.give(7, 1);
        x.give(2, 2);
        due("sat(0,6)", x.sat(0, 6), 2);
        due("sat(1,6)", x.sat(1, 6), 0);
        due("sat(2,6)", x.sat(2, 6), 1);
        due("sat(3,0)", x.sat(3, 0), BAD);
        due("sat(-1,0)", x.sat(-1, 0), BAD);
        due("sat(0,7)", x.sat(0, 7), BAD);
        due("sat(0,-1)", x.sat(0, -1), BAD);
        StationPasses y = laid("s59,60,1,99,9;s0,6,0,1,0;g0,1;g1,1;g2,1;");
        int[] numbers = {59, 60, 1, 99, 9};
        for (int what = 0; what < 5; what++) {
            due("sat(0," + what + ") at its most", y.sat(0, what), numbers[what]);
        }
        // 30 passes of sat 1, three in each 6 slots, and of sat 0 two at 0 and 1 and one at 59: 24 count
        due("sat(0,5) of the first 24", y.sat(0, 5), 2);
        due("sat(1,5) of the first 24", y.sat(1, 5), 22);
    }

    // Promise 7
    private static void antenna() {
        StationPasses x = new StationPasses();
        x.give(0, 0);
        x.give(3, 0);
        x.give(17, 0);
        due("antenna(0,5)", x.antenna(0, 5), 3);
        due("antenna(0,6)", x.antenna(0, 6), 15);
        due("antenna(1,5)", x.antenna(1, 5), 0);
        due("antenna(1,6)", x.antenna(1, 6), 0);
        x.out(1, 0, 59);
        due("antenna(1,3)", x.antenna(1, 3), 0);
        due("antenna(1,4)", x.antenna(1, 4), 59);
        x.out(1, 7, 7);
        due("antenna(1,3) anew", x.antenna(1, 3), 7);
        due("antenna(1,4) anew", x.antenna(1, 4), 7);
        x.out(1, 8, 7);
        due("antenna(1,3) not out", x.antenna(1, 3), NONE);
        due("antenna(1,4) not out", x.antenna(1, 4), NONE);
        due("antenna(3,0)", x.antenna(3, 0), BAD);
        due("antenna(-1,0)", x.antenna(-1, 0), BAD);
        due("antenna(0,7)", x.antenna(0, 7), BAD);
        due("antenna(0,-1)", x.antenna(0, -1), BAD);
    }

    // Promise 8
    private static void seen() {
        StationPasses x = new StationPasses();
        // sat 2 from station 1: 13 + 9 = 22, each 18 slots, 8 wide
        int[] edges = {3, 0, 4, 1, 11, 1, 12, 0, 21, 0, 22, 1, 29, 1, 30, 0, 57, 0, 58, 1, 59, 1};
        for (int n = 0; n < edges.length; n += 2) {
            due("seen(2,1," + edges[n] + ")", x.seen(2, 1, edges[n]), edges[n + 1]);
        }
        due("seen(3,0,0)", x.seen(3, 0, 0), BAD);
        due("seen(-1,0,0)", x.seen(-1, 0, 0), BAD);
        due("seen(0,2,0)", x.seen(0, 2, 0), BAD);
        due("seen(0,-1,0)", x.seen(0, -1, 0), BAD);
        due("seen(0,0,60)", x.seen(0, 0, 60), BAD);
        due("seen(0,0,-1)", x.seen(0, 0, -1), BAD);
        StationPasses y = laid("s59,6,0,1,0;g59,1;");
        due("far below 0", y.seen(0, 0, 4), 1);
        due("far below 0", y.seen(0, 0, 5), 0);
    }

    // Promise 9
    private static void pass() {
        StationPasses x = new StationPasses();
        int[][] passes = {{0, 5, 0, 0, 24}, {0, 0, 2, 0, 3}, {4, 11, 2, 1, 60}, {7, 12, 1, 0, 36}, {9, 16, 0, 1, 40},
            {13, 18, 2, 0, 36}, {16, 23, 1, 1, 60}, {20, 25, 0, 0, 24}, {22, 29, 2, 1, 60}, {29, 36, 0, 1, 40},
            {31, 36, 2, 0, 36}, {32, 37, 1, 0, 36}, {40, 45, 0, 0, 24}, {40, 47, 2, 1, 60}, {41, 48, 1, 1, 60},
            {49, 56, 0, 1, 40}, {49, 54, 2, 0, 36}, {57, 59, 1, 0, 12}, {58, 59, 2, 1, 6}};
        int[] fits = {3, 1, 4, 1, 0, 1, 4, 3, 4, 0, 1, 1, 3, 4, 4, 0, 1, 1, 4};
        for (int p = 0; p < passes.length; p++) {
            for (int what = 0; what < 5; what++) {
                due("pass(" + p + "," + what + ")", x.pass(p, what), passes[p][what]);
            }
            due("pass(" + p + ",5)", x.pass(p, 5), NONE);
            due("pass(" + p + ",6)", x.pass(p, 6), fits[p]);
        }
        x.give(0, 1);
        due("pass(0,5) in contact", x.pass(0, 5), 1);
        due("pass(0,6) in contact", x.pass(0, 6), 3);
        x.out(0, 5, 7);
        due("pass(0,6), out in its last slot", x.pass(0, 6), 2);
        due("pass(3,6), out in its first slot", x.pass(3, 6), 0);
        due("pass(5,6), out ahead of it", x.pass(5, 6), 1);
        due("pass(19,0)", x.pass(19, 0), BAD);
        due("pass(-1,0)", x.pass(-1, 0), BAD);
        due("pass(0,7)", x.pass(0, 7), BAD);
        due("pass(0,-1)", x.pass(0, -1), BAD);
    }

    private static void passLimits() {
        StationPasses x = laid("s0,6,1,1,0;g0,6;");
        due("one pass without an end", x.count(3), 1);
        due("its last slot", x.pass(0, 1), 59);
        due("its volume", x.pass(0, 4), 1860 * 3 / 2);
        StationPasses y = laid("s0,6,0,1,0;s0,6,0,1,0;s0,6,0,1,0;s0,6,0,1,0;g0,1;g0,1;g1,1;");
        for (int p = 0; p < 24; p++) {
            boolean late = p % 12 > 7;
            due("slot of " + p, y.pass(p, 0), p / 12 * 6 + (late ? 1 : 0));
            due("sat of " + p, y.pass(p, 2), late ? p % 12 - 8 : p % 12 / 2);
            due("station of " + p, y.pass(p, 3), late ? 2 : p % 2);
        }
        due("the 25th", y.pass(24, 0), BAD);
    }

    // Promise 10
    private static void rate() {
        StationPasses x = new StationPasses();
        int[] narrow = {2, 4, 6, 6, 4, 2};
        int[] wide = {3, 6, 3};
        for (int k = 0; k < 6; k++) {
            due("rate(7," + (20 + k) + ")", x.rate(7, 20 + k), narrow[k]);
        }
        for (int k = 0; k < 3; k++) {
            due("rate(17," + (57 + k) + ")", x.rate(17, 57 + k), wide[k]);
        }
        due("rate(7,19)", x.rate(7, 19), NONE);
        due("rate(7,26)", x.rate(7, 26), NONE);
        due("rate(7,0)", x.rate(7, 0), NONE);
        due("rate(7,59)", x.rate(7, 59), NONE);
        due("rate(7,60)", x.rate(7, 60), BAD);
        due("rate(7,-1)", x.rate(7, -1), BAD);
        due("rate(19,20)", x.rate(19, 20), BAD);
        due("rate(-1,20)", x.rate(-1, 20), BAD);
    }

    private static final String TWO_AND_TWO = "s0,60,0,9,0;s3,60,0,9,0;g0,6;g2,6;a0,2,0;a1,2,0;";

    // Promise 11
    private static void give() {
        StationPasses x = new StationPasses();
        due("give(0,0)", x.give(0, 0), 1);
        due("give(0,0) again", x.give(0, 0), NO);
        due("give(0,1) has one", x.give(0, 1), NO);
        due("give(1,1) of another band", x.give(1, 1), NO);
        due("give(2,0) of another station", x.give(2, 0), NO);
        due("give(3,0)", x.give(3, 0), 2);
        due("give(2,2)", x.give(2, 2), 3);
        due("what is refused can't be undone", x.count(5), 3);
        due("give(19,0)", x.give(19, 0), BAD);
        due("give(-1,0)", x.give(-1, 0), BAD);
        due("give(5,3)", x.give(5, 3), BAD);
        due("give(5,-1)", x.give(5, -1), BAD);
        due("pass(3,5)", x.pass(3, 5), 0);
        StationPasses y = laid(TWO_AND_TWO);
        due("give(1,1)", y.give(1, 1), 1);
        due("give(0,0), its sat elsewhere", y.give(0, 0), NO);
        due("give(2,0)", y.give(2, 0), 2);
    }

    // Promise 12
    private static void why() {
        StationPasses x = laid("s0,60,0,9,0;s7,60,0,9,0;s8,60,0,9,0;g0,6;a0,2,2;a0,1,0;");
        due("why(0,0)", x.why(0, 0), 0);
        due("why(0,1)", x.why(0, 1), 2);
        due("give(0,0)", x.give(0, 0), 1);
        due("why(0,0) in contact", x.why(0, 0), 1);
        due("why(0,1) in contact", x.why(0, 1), 1);
        due("why(1,0), setup as long as the gap", x.why(1, 0), 3);
        due("why(2,0), setup shorter", x.why(2, 0), 0);
        x.take(0);
        x.give(1, 0);
        due("why(0,0), the later one is in contact", x.why(0, 0), 3);
        due("why(2,0)", x.why(2, 0), 3);
        x.out(0, 5, 5);
        due("why(0,0), out", x.why(0, 0), 2);
        due("why(3,0)", x.why(3, 0), BAD);
        due("why(-1,0)", x.why(-1, 0), BAD);
        due("why(0,2)", x.why(0, 2), BAD);
        due("why(0,-1)", x.why(0, -1), BAD);
        due("why changes nothing", x.count(5), 4);
    }

    private static void whyLowest() {
        StationPasses x = laid(TWO_AND_TWO);
        x.give(0, 0);
        due("why(1,1), its sat elsewhere", x.why(1, 1), 4);
        due("why(1,0), does not fit either", x.why(1, 0), 2);
        x.give(3, 1);
        due("why(1,1), not together either", x.why(1, 1), 3);
        due("why(2,0), not together either", x.why(2, 0), 3);
        StationPasses y = laid("s0,60,0,9,0;g0,6;g5,6;g6,6;a0,2,0;a1,2,0;a2,2,0;");
        y.give(0, 0);
        due("why(1,1), one slot shared", y.why(1, 1), 4);
        due("why(2,2), no slot shared", y.why(2, 2), 0);
    }

    // Promise 13
    private static void take() {
        StationPasses x = new StationPasses();
        due("take(0) of none", x.take(0), NO);
        due("none to undo", x.count(5), 0);
        x.give(0, 1);
        x.give(3, 0);
        due("take(0)", x.take(0), 1);
        due("take(0) again", x.take(0), NO);
        due("pass(0,5)", x.pass(0, 5), NONE);
        due("count(4)", x.count(4), 1);
        due("count(5)", x.count(5), 3);
        due("take(19)", x.take(19), BAD);
        due("take(-1)", x.take(-1), BAD);
    }

    // Promise 14
    private static void out() {
        StationPasses x = new StationPasses();
        x.give(0, 0);
        x.give(3, 0);
        x.give(5, 0);
        x.give(7, 1);
        due("three on antenna 0, its setup let them", x.count(4), 3);
        x.give(10, 0);
        due("out between", x.out(0, 19, 30), 0);
        due("contacts stay", x.count(4), 4);
        due("out in one slot", x.out(0, 12, 12), 1);
        due("pass(3,5)", x.pass(3, 5), NONE);
        due("pass(7,5) of another antenna", x.pass(7, 5), 1);
        due("out in all", x.out(0, 0, 59), 2);
        due("not out: none come back", x.out(0, 59, 0), 0);
        due("contacts", x.count(4), 1);
        due("why(0,0)", x.why(0, 0), 0);
        due("out(3,0,0)", x.out(3, 0, 0), BAD);
        due("out(-1,0,0)", x.out(-1, 0, 0), BAD);
        due("out(0,60,0)", x.out(0, 60, 0), BAD);
        due("out(0,-1,0)", x.out(0, -1, 0), BAD);
        due("out(0,0,60)", x.out(0, 0, 60), BAD);
        due("out(0,0,-1)", x.out(0, 0, -1), BAD);
        due("antenna(0,3)", x.antenna(0, 3), NONE);
    }

    // Promise 15
    private static void undo() {
        StationPasses x = new StationPasses();
        int[] passes = {0, 7, 12};
        for (int p : passes) {
            x.give(p, 1);
        }
        due("out", x.out(1, 0, 59), 3);
        due("undo of out", x.undo(), 3);
        due("contacts are back", x.count(4), 3);
        due("it is not out", x.antenna(1, 3), NONE);
        due("undo of give", x.undo(), 2);
        due("pass(12,5)", x.pass(12, 5), NONE);
        due("pass(7,5)", x.pass(7, 5), 1);
        for (int n = 0; n < 5; n++) {
            x.out(0, 3, 2);
        }
        due("six at most", x.count(5), 6);
        for (int n = 5; n >= 0; n--) {
            due("undo", x.undo(), n);
        }
        due("undo of none", x.undo(), NO);
        due("the first can't be undone", x.count(4), 1);
        due("pass(0,5)", x.pass(0, 5), 1);
    }

    private static void undoKinds() {
        StationPasses x = new StationPasses();
        x.out(0, 3, 4);
        x.out(0, 5, 6);
        due("undo of out anew", x.undo(), 1);
        due("antenna(0,3)", x.antenna(0, 3), 3);
        due("antenna(0,4)", x.antenna(0, 4), 4);
        x.give(0, 1);
        x.take(0);
        due("undo of take", x.undo(), 2);
        due("pass(0,5)", x.pass(0, 5), 1);
        x.adopt(0, 0, 6);
        due("contacts planned", x.count(4) > 1 ? 1 : 0, 1);
        due("undo of adopt", x.undo(), 2);
        due("contacts", x.count(4), 1);
        x.adopt(0, 0, 0);
        due("adopt without a change can be undone", x.count(5), 3);
        x.give(0, 1);
        x.take(18);
        x.undo();
        x.write('x');
        x.fault();
        x.lay();
        x.wipe();
        due("what is refused, asked or told is no change", x.count(5), 2);
    }

    // Promise 16
    private static void best() {
        StationPasses x = new StationPasses();
        int[] passes = {0, 7, 12};
        due("best(1,-1)", x.best(1, -1), 72);
        due("best(1,-2)", x.best(1, -2), 3);
        for (int k = 0; k < 3; k++) {
            due("best(1," + k + ")", x.best(1, k), passes[k]);
        }
        due("best(1,3)", x.best(1, 3), NONE);
        due("best(1,1000000)", x.best(1, 1000000), NONE);
        due("best(1,-3)", x.best(1, -3), BAD);
        due("best(3,0)", x.best(3, 0), BAD);
        due("best(-1,0)", x.best(-1, 0), BAD);
        x.give(7, 0);
        due("best looks at no contact", x.best(1, -2), 3);
        x.out(1, 22, 22);
        due("best(1,-1), out", x.best(1, -1), 48);
        due("best(1,1), out", x.best(1, 1), 12);
        x.out(1, 0, 59);
        due("best(1,-1), none fits", x.best(1, -1), 0);
        due("best(1,-2), none fits", x.best(1, -2), 0);
        due("best(1,0), none fits", x.best(1, 0), NONE);
    }

    private static void bestOfSeveral() {
        StationPasses first = laid("s0,60,0,9,0;s1,60,0,9,0;g0,6;a0,0,0;");
        due("two as great: the first", first.best(0, 0), 0);
        due("two as great", first.best(0, -2), 1);
        first.out(0, 0, 0);
        due("the other one", first.best(0, 0), 1);
        // 0-3 (12) and 10-15 (24) together are as great as 5-10 (36); 58-59 (4) goes with both
        StationPasses fewest = laid("s58,60,0,9,0;s5,60,1,9,0;s10,60,0,9,0;g0,6;a0,2,2;");
        due("fewest: volume", fewest.best(0, -1), 40);
        due("fewest: passes", fewest.best(0, -2), 2);
        due("fewest: the first", fewest.best(0, 0), 1);
        due("fewest: the second", fewest.best(0, 1), 3);
        // 5 lies between 0-5 and 10-15: the three of the greatest volume are not one wide one alone
        StationPasses sum = laid("s0,60,0,9,0;s5,60,1,9,0;s10,60,0,9,0;g0,6;a0,2,4;");
        due("two narrow ones are more than a wide one", sum.best(0, -1), 48);
        due("the setup of 4 lets 10 behind 5", sum.best(0, 1), 2);
        StationPasses gap = laid("s0,60,0,9,0;s5,60,1,9,0;s10,60,0,9,0;g0,6;a0,2,5;");
        due("the setup of 5 does not", gap.best(0, -1), 36);
        due("so the wide one", gap.best(0, 0), 1);
    }

    private static final String TWO_ON_TWO = "s0,60,0,9,0;s1,60,0,9,0;g0,6;a0,2,0;a0,2,0;";

    // Promise 17
    private static void planByMost() {
        StationPasses x = laid(TWO_ON_TWO);
        plan("two", x, 0, 0, 6, new int[] {48, 0, 2, 2, 0, 1, BAD});
        plan("two", x, 0, 0, 2, new int[] {48, 0, 2, 2, 0, 1, BAD});
        plan("the first of one change", x, 0, 0, 1, new int[] {24, 0, 1, 1, NONE, 0, BAD});
        plan("no change", x, 0, 0, 0, new int[] {0, 0, 0, 0, NONE, NONE, BAD});
        x.give(0, 1);
        plan("fewest changes", x, 0, 0, 6, new int[] {48, 0, 2, 1, 1, 0, BAD});
        plan("the window behind", x, 0, 1, 6, new int[] {24, 0, 1, 1, 0, BAD});
        x.out(0, 6, 6);
        plan("out", x, 0, 1, 6, new int[] {0, 0, 0, 0, NONE, BAD});
        // pass 0 could go to antenna 0, so that pass 1 has antenna 1
        plan("out", x, 0, 0, 6, new int[] {48, 0, 2, 2, 0, 1, BAD});
        plan("out, one change", x, 0, 0, 1, new int[] {24, 0, 1, 0, 1, NONE, BAD});
        due("plan changes nothing", x.pass(0, 5), 1);
        due("plan changes nothing", x.count(5), 2);
        StationPasses y = laid(TWO_AND_TWO);
        // pass 0 and 1 are of one sat, 2 and 3 of the other, 0 and 2 at one antenna, 1 and 3 at the other
        plan("sat and antenna", y, 0, 0, 6, new int[] {48, 0, 2, 2, NONE, 1, 0, NONE, BAD});
        y.give(3, 1);
        plan("what is outside stays", y, 0, 2, 6, new int[] {24, 0, 1, 0, NONE, 1, BAD});
        y.take(3);
        y.give(0, 0);
        plan("beside what is outside", y, 0, 1, 6, new int[] {24, 0, 1, 1, NONE, NONE, 1, BAD});
    }

    private static void planByLeast() {
        // sat 0 holds 2 and gets 18 each slot: lost 16, then 18 a slot; a contact brings 24 down
        StationPasses x = laid("s0,60,0,1,9;s1,60,0,99,0;g0,6;a0,2,0;");
        plan("least", x, 1, 0, 6, new int[] {24, 1054, 1, 1, 0, NONE, BAD});
        plan("most", x, 0, 0, 6, new int[] {24, 1078, 1, 1, NONE, 0, BAD});
        plan("least, no change", x, 1, 0, 0, new int[] {0, 1078, 0, 0, NONE, NONE, BAD});
        x.give(1, 0);
        plan("least, one change: what is of no use goes", x, 1, 0, 1, new int[] {0, 1078, 0, 1, NONE, NONE, BAD});
        plan("least, two changes", x, 1, 0, 2, new int[] {24, 1054, 1, 2, 0, NONE, BAD});
        plan("most: no change", x, 0, 0, 6, new int[] {24, 1078, 1, 0, NONE, 0, BAD});
        StationPasses y = laid("s0,20,0,5,1;g0,6;a0,2,0;");
        // 120 come in, 10 are there at the end; the first pass brings the 2 of each slot down, 12; each other
        // one finds the store full and brings 2 4 6 6 down, then the 2 of each slot, 22
        plan("one of three: of two the first way", y, 1, 0, 1, new int[] {24, 88, 1, 1, NONE, NONE, 0, BAD});
        plan("all three", y, 1, 0, 6, new int[] {72, 54, 3, 3, 0, 0, 0, BAD});
    }

    private static void planOfSeveral() {
        StationPasses none = laid("s0,60,0,9,0;s1,60,0,9,0;g0,6;a0,2,0;a0,2,0;");
        none.give(0, 1);
        none.give(1, 0);
        plan("nothing is lost: fewest contacts", none, 1, 0, 6, new int[] {0, 0, 0, 2, NONE, NONE, BAD});
        plan("nothing is lost, one change", none, 1, 0, 1, new int[] {24, 0, 1, 1, NONE, 0, BAD});
        plan("most: as it is", none, 0, 0, 6, new int[] {48, 0, 2, 0, 1, 0, BAD});
        // 0-3 (12) with 10-15 (24) against 5-10 (36); 58-59 (4) goes with both
        StationPasses fewest = laid("s58,60,0,9,0;s5,60,1,9,0;s10,60,0,9,0;g0,6;a0,2,2;");
        plan("fewest contacts", fewest, 0, 0, 6, new int[] {40, 0, 2, 2, NONE, 0, NONE, 0, BAD});
        fewest.give(0, 0);
        fewest.give(2, 0);
        fewest.give(3, 0);
        plan("fewest contacts, then changes", fewest, 0, 0, 6, new int[] {40, 0, 2, 3, NONE, 0, NONE, 0, BAD});
        plan("too few changes", fewest, 0, 0, 2, new int[] {40, 0, 3, 0, 0, NONE, 0, 0, BAD});
    }

    private static void planWindow() {
        StationPasses x = new StationPasses();
        due("window of 6", x.plan(0, 13, 6, 5) != BAD ? 1 : 0, 1);
        due("beyond", x.plan(0, 13, 6, 6), BAD);
        due("window of 5", x.plan(0, 14, 6, 4) != BAD ? 1 : 0, 1);
        due("beyond", x.plan(0, 14, 6, 5), BAD);
        // the rates of 3 and 3 keep the full store from losing 2 and 2
        plan("window of 1", x, 0, 18, 6, new int[] {6, 296, 1, 1, 2, BAD});
        due("plan(0,19,6,-1)", x.plan(0, 19, 6, -1), BAD);
        due("plan(0,-1,6,-1)", x.plan(0, -1, 6, -1), BAD);
        due("plan(2,0,6,-1)", x.plan(2, 0, 6, -1), BAD);
        due("plan(-1,0,6,-1)", x.plan(-1, 0, 6, -1), BAD);
        due("plan(0,0,7,-1)", x.plan(0, 0, 7, -1), BAD);
        due("plan(0,0,-1,-1)", x.plan(0, 0, -1, -1), BAD);
        due("plan(0,0,6,-5)", x.plan(0, 0, 6, -5), BAD);
        due("plan(0,0,6,-4)", x.plan(0, 0, 6, -4), 4);
        x.give(0, 1);
        due("a plan is of what is now", x.plan(0, 0, 6, -4), 3);
        x.undo();
        due("undone, too", x.plan(0, 0, 6, -4), 4);
        x.out(2, 4, 4);
        due("out, too", x.plan(0, 0, 6, -1), 63);
        tell(x, TWO_ON_TWO);
        x.lay();
        due("laid, too", x.plan(0, 0, 6, -1), 48);
    }

    // Promise 18
    private static void adopt() {
        StationPasses x = new StationPasses();
        due("adopt(0,0,6)", x.adopt(0, 0, 6), 4);
        int[] has = {1, 0, 2, NONE, NONE, 0, NONE};
        for (int p = 0; p < has.length; p++) {
            due("adopted: pass(" + p + ",5)", x.pass(p, 5), has[p]);
        }
        due("adopted: count(5)", x.count(5), 1);
        due("adopted anew", x.adopt(0, 0, 6), 0);
        due("adopted: the next window", x.adopt(0, 6, 6) > 0 ? 1 : 0, 1);
        due("what is outside stays", x.pass(0, 5), 1);
        x.undo();
        due("undone", x.count(4), 4);
        // passes 1 and 5 have none then, pass 3 has antenna 0
        due("adopt(1,0,6)", x.adopt(1, 0, 6), 3);
        due("by what is lost", x.count(8), 228);
        due("adopt(2,0,6)", x.adopt(2, 0, 6), BAD);
        due("adopt(-1,0,6)", x.adopt(-1, 0, 6), BAD);
        due("adopt(0,19,6)", x.adopt(0, 19, 6), BAD);
        due("adopt(0,-1,6)", x.adopt(0, -1, 6), BAD);
        due("adopt(0,0,7)", x.adopt(0, 0, 7), BAD);
        due("adopt(0,0,-1)", x.adopt(0, 0, -1), BAD);
        due("adopted: count(5)", x.count(5), 3);
    }

    // Promise 19
    private static void bound() {
        StationPasses x = new StationPasses();
        due("bound(0)", x.bound(0), 24 + 3 + 60 + 36 + 36);
        due("bound(13)", x.bound(13), 60 + 60 + 36 + 12 + 6);
        due("bound(17)", x.bound(17), 18);
        due("bound(18)", x.bound(18), 6);
        x.give(0, 0);
        due("bound(0), contacts not looked at", x.bound(0), 159);
        x.out(0, 0, 59);
        due("bound(0), out", x.bound(0), 84);
        due("bound(19)", x.bound(19), BAD);
        due("bound(-1)", x.bound(-1), BAD);
    }

    // Promise 20
    private static void store() {
        StationPasses x = laid("s0,20,0,5,2;g0,3;a0,0,0;");
        int[][] without = {{4, 0, 0}, {8, 0, 0}, {10, 2, 0}, {10, 6, 0}};
        int[][] contact = {{2, 0, 2}, {2, 0, 6}, {4, 0, 8}, {8, 0, 8}, {10, 2, 8}};
        for (int t = 0; t < without.length; t++) {
            for (int what = 0; what < 3; what++) {
                due("store(0," + t + "," + what + ")", x.store(0, t, what), without[t][what]);
            }
        }
        x.give(0, 0);
        for (int t = 0; t < contact.length; t++) {
            for (int what = 0; what < 3; what++) {
                due("contact: store(0," + t + "," + what + ")", x.store(0, t, what), contact[t][what]);
            }
        }
        // what comes in, goes down, is lost or is there
        due("at the end: got", x.store(0, 59, 2), 8);
        due("at the end: lost", x.store(0, 59, 1), 240 - 8 - 10);
        due("store(1,0,0)", x.store(1, 0, 0), BAD);
        due("store(-1,0,0)", x.store(-1, 0, 0), BAD);
        due("store(0,60,0)", x.store(0, 60, 0), BAD);
        due("store(0,-1,0)", x.store(0, -1, 0), BAD);
        due("store(0,0,3)", x.store(0, 0, 3), BAD);
        due("store(0,0,-1)", x.store(0, 0, -1), BAD);
        StationPasses y = laid("s0,20,1,1,9;g0,3;a0,1,0;");
        y.give(0, 0);
        due("in, down, then lost", y.store(0, 0, 1), 18 - 3 - 2);
        StationPasses z = laid("s0,60,0,9,1;g0,9;a0,0,0;");
        z.give(0, 0);
        due("no more than there is", z.store(0, 8, 2), 18);
        due("no more than there is", z.store(0, 8, 0), 0);
    }

    // Promise 21
    private static void over() {
        StationPasses x = laid("s0,20,0,5,2;s0,20,0,60,1;s0,20,0,59,1;s0,20,0,9,0;g0,3;a0,0,0;");
        due("over(0)", x.over(0), 2);
        due("over(1), full at last", x.over(1), NONE);
        due("over(2), in the last slot", x.over(2), 59);
        due("over(3), never fills", x.over(3), NONE);
        x.give(0, 0);
        due("over(0) with a contact", x.over(0), 4);
        due("over(4)", x.over(4), BAD);
        due("over(-1)", x.over(-1), BAD);
    }

    // Promise 22
    private static void count() {
        StationPasses x = new StationPasses();
        x.give(0, 0);
        x.give(3, 0);
        x.write('s');
        int[] counts = {3, 2, 3, 19, 2, 2, 1};
        for (int what = 0; what < counts.length; what++) {
            due("count(" + what + ")", x.count(what), counts[what]);
        }
        // sat 0 gets 2 a slot and brings all 12 down; sat 1 gets 4 a slot, has 28 ahead of slot 7: rates are
        // 3 6 9 9 6 3, all 36 there
        due("count(7)", x.count(7), 12 + 36);
        due("count(8)", x.count(8), 300 - 12 - 36);
        due("count(9)", x.count(9), 60);
        due("count(10)", x.count(10), BAD);
        due("count(-1)", x.count(-1), BAD);
    }

    private static void nothingLaid() {
        StationPasses x = laid("");
        for (int what = 0; what < 10; what++) {
            due("nothing laid: count(" + what + ")", x.count(what), 0);
        }
        due("nothing laid: sat", x.sat(0, 0), BAD);
        due("nothing laid: antenna", x.antenna(0, 0), BAD);
        due("nothing laid: seen", x.seen(0, 0, 0), BAD);
        due("nothing laid: pass", x.pass(0, 0), BAD);
        due("nothing laid: rate", x.rate(0, 0), BAD);
        due("nothing laid: give", x.give(0, 0), BAD);
        due("nothing laid: why", x.why(0, 0), BAD);
        due("nothing laid: take", x.take(0), BAD);
        due("nothing laid: out", x.out(0, 0, 0), BAD);
        due("nothing laid: undo", x.undo(), NO);
        due("nothing laid: best", x.best(0, -1), BAD);
        due("nothing laid: plan", x.plan(0, 0, 0, -1), BAD);
        due("nothing laid: adopt", x.adopt(0, 0, 0), BAD);
        due("nothing laid: bound", x.bound(0), BAD);
        due("nothing laid: store", x.store(0, 0, 0), BAD);
        due("nothing laid: over", x.over(0), BAD);
    }

    private static void wrongNumbers() {
        StationPasses x = new StationPasses();
        for (int n : FAR) {
            due("write", x.write(n), BAD);
            due("sat", x.sat(n, 0), BAD);
            due("sat", x.sat(0, n), BAD);
            due("antenna", x.antenna(n, 0), BAD);
            due("antenna", x.antenna(0, n), BAD);
            due("seen", x.seen(n, 0, 0), BAD);
            due("seen", x.seen(0, n, 0), BAD);
            due("seen", x.seen(0, 0, n), BAD);
            due("pass", x.pass(n, 0), BAD);
            due("pass", x.pass(0, n), BAD);
            due("rate", x.rate(n, 0), BAD);
            due("rate", x.rate(0, n), BAD);
            due("give", x.give(n, 0), BAD);
            due("give", x.give(0, n), BAD);
            due("why", x.why(n, 0), BAD);
            due("why", x.why(0, n), BAD);
            due("take", x.take(n), BAD);
            due("out", x.out(n, 0, 0), BAD);
            due("out", x.out(0, n, 0), BAD);
            due("out", x.out(0, 0, n), BAD);
            due("best", x.best(n, 0), BAD);
            due("best", x.best(0, n), n < 0 ? BAD : NONE);
            due("plan", x.plan(n, 0, 0, 0), BAD);
            due("plan", x.plan(0, n, 0, 0), BAD);
            due("plan", x.plan(0, 0, n, 0), BAD);
            due("plan", x.plan(0, 0, 0, n), BAD);
            due("adopt", x.adopt(n, 0, 0), BAD);
            due("adopt", x.adopt(0, n, 0), BAD);
            due("adopt", x.adopt(0, 0, n), BAD);
            due("bound", x.bound(n), BAD);
            due("store", x.store(n, 0, 0), BAD);
            due("store", x.store(0, n, 0), BAD);
            due("store", x.store(0, 0, n), BAD);
            due("over", x.over(n), BAD);
            due("count", x.count(n), BAD);
        }
        due("no change by all that", x.count(5), 0);
    }

    /** The calls that README.md shows, and what it says of them. */
    private static void exampleOfReadme() {
        StationPasses x = new StationPasses();
        tell(x, "s0,20,0,30,1;g0,6;a0,0,0;");
        due("README: fault()", x.fault(), NONE);
        due("README: lay()", x.lay(), 3);
        due("README: pass(1,0)", x.pass(1, 0), 20);
        due("README: pass(1,4)", x.pass(1, 4), 24);
        due("README: why(0,0)", x.why(0, 0), 0);
        due("README: give(0,0)", x.give(0, 0), 1);
        due("README: store(0,5,2)", x.store(0, 5, 2), 12);
        due("README: count(8)", x.count(8), 48);
        due("README: plan(1,0,6,-2)", x.plan(1, 0, 6, -2), 0);
        due("README: adopt(1,0,6)", x.adopt(1, 0, 6), 2);
        due("README: out(0,40,59)", x.out(0, 40, 59), 1);
        due("README: undo()", x.undo(), 2);
        due("README: pass(3,0)", x.pass(3, 0), BAD);
    }
}
