import java.util.ArrayList;
import java.util.List;

/**
 * "BAD: a number is none that is told .. NO: not as things stand. NONE: there is none. FULL. Of several the first
 * in this order; nothing changes then." Each call that a promise refuses, on an object in the midst of its work:
 * what it answers, and that the object tells the same behind it as one without that call, also when all is undone.
 */
public final class RefusedTest {
    private static final int BAD = -1, NO = -2, FULL = -3, NONE = -4;
    private static final int[] FAR = {Integer.MIN_VALUE, Integer.MIN_VALUE + 1, -65536, -100, 100, 65536,
        Integer.MAX_VALUE - 1, Integer.MAX_VALUE};

    private static final Check CHECK = new Check();

    private interface Call {
        int on(StationPasses x);
    }

    public static void main(String[] args) {
        told();
        seen();
        contacts();
        best();
        stores();
        farNumbers();
        ofSeveralTheFirst();
        full();
        noneToUndo();
        askedChangesNothing();
        CHECK.end();
    }

    /** Seven changes, of which six can be undone, and a text with a fault. */
    private static StationPasses midst() {
        StationPasses x = new StationPasses();
        x.give(0, 0);
        x.give(3, 0);
        x.out(1, 7, 9);
        x.give(2, 2);
        x.take(0);
        x.adopt(0, 12, 3);
        x.out(0, 20, 25);
        Told.write(x, "s1,6,0,1,0;g0,0;");
        return x;
    }

    /** All that the object tells, then the same of contacts and outages as often as it can be undone. */
    private static List<Integer> story(StationPasses x) {
        List<Integer> all = new ArrayList<>();
        for (int what = 0; what <= 9; what++) {
            all.add(x.count(what));
        }
        all.add(x.fault());
        int sats = x.count(0);
        for (int i = 0; i < sats; i++) {
            for (int what = 0; what <= 6; what++) {
                all.add(x.sat(i, what));
            }
            all.add(x.over(i));
            all.add(x.store(i, 59, 0));
        }
        int antennas = x.count(2);
        for (int a = 0; a < antennas; a++) {
            for (int what = 0; what <= 6; what++) {
                all.add(x.antenna(a, what));
            }
        }
        addState(x, all);
        for (int n = 0; n < 8; n++) {
            all.add(x.undo());
            addState(x, all);
        }
        return all;
    }

    private static void addState(StationPasses x, List<Integer> all) {
        int passes = x.count(3);
        int antennas = x.count(2);
        for (int p = 0; p < passes; p++) {
            all.add(x.pass(p, 5));
        }
        for (int a = 0; a < antennas; a++) {
            all.add(x.antenna(a, 3));
            all.add(x.antenna(a, 4));
        }
    }

    private static void refused(String name, Call call, int want) {
        StationPasses x = midst();
        CHECK.due(name, call.on(x), want);
        CHECK.due(name + " again", call.on(x), want);
        CHECK.due(name + " changes nothing", story(x).equals(story(midst())) ? 1 : 0, 1);
    }

    private static void told() {
        CHECK.says("A letter (32 to 126, as in ASCII) comes behind THE TEXT: how long it is. BAD");
        refused("write(31)", x -> x.write(31), BAD);
        refused("write(127)", x -> x.write(127), BAD);
        refused("write(-1)", x -> x.write(-1), BAD);
        CHECK.says("LAID: how many PASSES. NO.");
        refused("lay()", StationPasses::lay, NO);
    }

    private static void seen() {
        CHECK.says("Of a SAT: PHASE (what = 0), .. its CONTACTS (6). BAD.");
        refused("sat(-1,0)", x -> x.sat(-1, 0), BAD);
        refused("sat(3,0)", x -> x.sat(3, 0), BAD);
        refused("sat(3,5)", x -> x.sat(3, 5), BAD);
        refused("sat(3,6)", x -> x.sat(3, 6), BAD);
        refused("sat(0,-1)", x -> x.sat(0, -1), BAD);
        refused("sat(0,7)", x -> x.sat(0, 7), BAD);
        CHECK.says("Of an ANTENNA: its STATION (what = 0), .. SLOTS in which it is in CONTACT (6). BAD.");
        refused("antenna(-1,0)", x -> x.antenna(-1, 0), BAD);
        refused("antenna(3,0)", x -> x.antenna(3, 0), BAD);
        refused("antenna(3,3)", x -> x.antenna(3, 3), BAD);
        refused("antenna(3,6)", x -> x.antenna(3, 6), BAD);
        refused("antenna(0,-1)", x -> x.antenna(0, -1), BAD);
        refused("antenna(0,7)", x -> x.antenna(0, 7), BAD);
        refused("antenna(2,3), not out", x -> x.antenna(2, 3), NONE);
        refused("antenna(2,4), not out", x -> x.antenna(2, 4), NONE);
        CHECK.says("1 if a SAT is SEEN from a STATION in a SLOT, 0. BAD.");
        refused("seen(-1,0,0)", x -> x.seen(-1, 0, 0), BAD);
        refused("seen(3,0,0)", x -> x.seen(3, 0, 0), BAD);
        refused("seen(0,-1,0)", x -> x.seen(0, -1, 0), BAD);
        refused("seen(0,2,0)", x -> x.seen(0, 2, 0), BAD);
        refused("seen(0,0,-1)", x -> x.seen(0, 0, -1), BAD);
        refused("seen(0,0,60)", x -> x.seen(0, 0, 60), BAD);
        CHECK.says("Of a PASS: its first SLOT (what = 0), .. ANTENNAS that it FITS, as bits (6). BAD.");
        refused("pass(-1,0)", x -> x.pass(-1, 0), BAD);
        refused("pass(19,0)", x -> x.pass(19, 0), BAD);
        refused("pass(19,5)", x -> x.pass(19, 5), BAD);
        refused("pass(0,-1)", x -> x.pass(0, -1), BAD);
        refused("pass(0,7)", x -> x.pass(0, 7), BAD);
        refused("pass(0,5), in no contact", x -> x.pass(0, 5), NONE);
        CHECK.says("RATE of a PASS in a SLOT. BAD; NONE: the SLOT is none of its.");
        refused("rate(-1,0)", x -> x.rate(-1, 0), BAD);
        refused("rate(19,0)", x -> x.rate(19, 0), BAD);
        refused("rate(3,-1)", x -> x.rate(3, -1), BAD);
        refused("rate(3,60)", x -> x.rate(3, 60), BAD);
        refused("rate(3,6)", x -> x.rate(3, 6), NONE);
        refused("rate(3,13)", x -> x.rate(3, 13), NONE);
        refused("rate(3,0)", x -> x.rate(3, 0), NONE);
        refused("rate(3,59)", x -> x.rate(3, 59), NONE);
    }

    private static void contacts() {
        CHECK.says("A PASS has an ANTENNA then: how many CONTACTS there are. BAD; NO: it has one, or CONTACTS would not be as told.");
        refused("give(-1,0)", x -> x.give(-1, 0), BAD);
        refused("give(19,0)", x -> x.give(19, 0), BAD);
        refused("give(0,-1)", x -> x.give(0, -1), BAD);
        refused("give(0,3)", x -> x.give(0, 3), BAD);
        refused("give(3,0), it has it", x -> x.give(3, 0), NO);
        refused("give(3,1), it has another", x -> x.give(3, 1), NO);
        refused("give(0,2), of another station", x -> x.give(0, 2), NO);
        refused("give(1,1), of another band", x -> x.give(1, 1), NO);
        refused("give(7,0), out", x -> x.give(7, 0), NO);
        refused("give(5,0), not more than its setup behind 3", x -> x.give(5, 0), NO);
        CHECK.says("Why not: 0 nothing speaks against it; 1 it has an ANTENNA, 2 it does not FIT, 3 it does not go together .. BAD.");
        refused("why(-1,0)", x -> x.why(-1, 0), BAD);
        refused("why(19,0)", x -> x.why(19, 0), BAD);
        refused("why(0,-1)", x -> x.why(0, -1), BAD);
        refused("why(0,3)", x -> x.why(0, 3), BAD);
        refused("why(0,0)", x -> x.why(0, 0), 0);
        refused("why(3,0)", x -> x.why(3, 0), 1);
        refused("why(7,0)", x -> x.why(7, 0), 2);
        refused("why(5,0)", x -> x.why(5, 0), 3);
        CHECK.says("A CONTACT less: the ANTENNA that it had. BAD; NO: it has none.");
        refused("take(-1)", x -> x.take(-1), BAD);
        refused("take(19)", x -> x.take(19), BAD);
        refused("take(0)", x -> x.take(0), NO);
        refused("take(4), which fits no antenna", x -> x.take(4), NO);
        CHECK.says("An ANTENNA is OUT from a SLOT to a SLOT (0 to 59 each; from above to: not OUT): how many CONTACTS are none by it. BAD.");
        refused("out(-1,0,0)", x -> x.out(-1, 0, 0), BAD);
        refused("out(3,0,0)", x -> x.out(3, 0, 0), BAD);
        refused("out(0,-1,59)", x -> x.out(0, -1, 59), BAD);
        refused("out(0,0,60)", x -> x.out(0, 0, 60), BAD);
        refused("out(0,60,0), though not out", x -> x.out(0, 60, 0), BAD);
        refused("out(0,0,-1), though not out", x -> x.out(0, 0, -1), BAD);
        refused("out(0,60,60)", x -> x.out(0, 60, 60), BAD);
        refused("out(0,-1,-1)", x -> x.out(0, -1, -1), BAD);
    }

    private static void best() {
        CHECK.says("BEST of an ANTENNA: .. BAD (k below -2); NONE: not so many.");
        refused("best(-1,-1)", x -> x.best(-1, -1), BAD);
        refused("best(3,-1)", x -> x.best(3, -1), BAD);
        refused("best(0,-3)", x -> x.best(0, -3), BAD);
        refused("best(1,3)", x -> x.best(1, 3), NONE);
        CHECK.says("PLAN by a LAW for the WINDOW of PASS f, with c CHANGES at most: .. BAD (k beyond the WINDOW, too).");
        refused("plan(-1,0,6,0)", x -> x.plan(-1, 0, 6, 0), BAD);
        refused("plan(2,0,6,0)", x -> x.plan(2, 0, 6, 0), BAD);
        refused("plan(0,-1,6,0)", x -> x.plan(0, -1, 6, 0), BAD);
        refused("plan(0,19,6,0)", x -> x.plan(0, 19, 6, 0), BAD);
        refused("plan(0,0,-1,0)", x -> x.plan(0, 0, -1, 0), BAD);
        refused("plan(0,0,7,0)", x -> x.plan(0, 0, 7, 0), BAD);
        refused("plan(0,0,6,-5)", x -> x.plan(0, 0, 6, -5), BAD);
        refused("plan(0,0,6,6)", x -> x.plan(0, 0, 6, 6), BAD);
        refused("plan(0,13,6,6)", x -> x.plan(0, 13, 6, 6), BAD);
        refused("plan(0,14,6,5)", x -> x.plan(0, 14, 6, 5), BAD);
        refused("plan(0,18,6,1)", x -> x.plan(0, 18, 6, 1), BAD);
        refused("plan(0,0,0,0), none", x -> x.plan(0, 0, 0, 0), NONE);
        CHECK.says("PLANNED: CHANGES. BAD.");
        refused("adopt(-1,0,6)", x -> x.adopt(-1, 0, 6), BAD);
        refused("adopt(2,0,6)", x -> x.adopt(2, 0, 6), BAD);
        refused("adopt(0,-1,6)", x -> x.adopt(0, -1, 6), BAD);
        refused("adopt(0,19,6)", x -> x.adopt(0, 19, 6), BAD);
        refused("adopt(0,0,-1)", x -> x.adopt(0, 0, -1), BAD);
        refused("adopt(0,0,7)", x -> x.adopt(0, 0, 7), BAD);
        CHECK.says("BOUND. BAD.");
        refused("bound(-1)", x -> x.bound(-1), BAD);
        refused("bound(19)", x -> x.bound(19), BAD);
    }

    private static void stores() {
        CHECK.says("Of a SAT behind a SLOT: what is in its STORE (what = 0), LOST so far (1), GOT so far (2). BAD.");
        refused("store(-1,0,0)", x -> x.store(-1, 0, 0), BAD);
        refused("store(3,0,0)", x -> x.store(3, 0, 0), BAD);
        refused("store(0,-1,0)", x -> x.store(0, -1, 0), BAD);
        refused("store(0,60,0)", x -> x.store(0, 60, 0), BAD);
        refused("store(0,0,-1)", x -> x.store(0, 0, -1), BAD);
        refused("store(0,0,3)", x -> x.store(0, 0, 3), BAD);
        CHECK.says("The first SLOT in which a SAT has LOST something. BAD; NONE.");
        refused("over(-1)", x -> x.over(-1), BAD);
        refused("over(3)", x -> x.over(3), BAD);
        CHECK.says("How many: 0 SATS, .. 9 VOLUME of all CONTACTS. BAD.");
        refused("count(-1)", x -> x.count(-1), BAD);
        refused("count(10)", x -> x.count(10), BAD);
    }

    private static void farNumbers() {
        CHECK.says("BAD: a number is none that is told");
        for (int n : FAR) {
            String far = " with " + n;
            refused("write" + far, x -> x.write(n == 100 ? 1000 : n), BAD);
            refused("sat(n,0)" + far, x -> x.sat(n, 0), BAD);
            refused("sat(0,n)" + far, x -> x.sat(0, n), BAD);
            refused("antenna(n,0)" + far, x -> x.antenna(n, 0), BAD);
            refused("antenna(0,n)" + far, x -> x.antenna(0, n), BAD);
            refused("seen(n,0,0)" + far, x -> x.seen(n, 0, 0), BAD);
            refused("seen(0,n,0)" + far, x -> x.seen(0, n, 0), BAD);
            refused("seen(0,0,n)" + far, x -> x.seen(0, 0, n), BAD);
            refused("pass(n,0)" + far, x -> x.pass(n, 0), BAD);
            refused("pass(0,n)" + far, x -> x.pass(0, n), BAD);
            refused("rate(n,0)" + far, x -> x.rate(n, 0), BAD);
            refused("rate(0,n)" + far, x -> x.rate(0, n), BAD);
            refused("give(n,0)" + far, x -> x.give(n, 0), BAD);
            refused("give(0,n)" + far, x -> x.give(0, n), BAD);
            refused("why(n,0)" + far, x -> x.why(n, 0), BAD);
            refused("why(0,n)" + far, x -> x.why(0, n), BAD);
            refused("take(n)" + far, x -> x.take(n), BAD);
            refused("out(n,0,0)" + far, x -> x.out(n, 0, 0), BAD);
            refused("out(0,n,0)" + far, x -> x.out(0, n, 0), BAD);
            refused("out(0,0,n)" + far, x -> x.out(0, 0, n), BAD);
            refused("best(n,0)" + far, x -> x.best(n, 0), BAD);
            refused("best(0,n)" + far, x -> x.best(0, n), n < 0 ? BAD : NONE);
            refused("plan(n,0,0,0)" + far, x -> x.plan(n, 0, 0, 0), BAD);
            refused("plan(0,n,0,0)" + far, x -> x.plan(0, n, 0, 0), BAD);
            refused("plan(0,0,n,0)" + far, x -> x.plan(0, 0, n, 0), BAD);
            refused("plan(0,0,0,n)" + far, x -> x.plan(0, 0, 0, n), BAD);
            refused("adopt(n,0,0)" + far, x -> x.adopt(n, 0, 0), BAD);
            refused("adopt(0,n,0)" + far, x -> x.adopt(0, n, 0), BAD);
            refused("adopt(0,0,n)" + far, x -> x.adopt(0, 0, n), BAD);
            refused("bound(n)" + far, x -> x.bound(n), BAD);
            refused("store(n,0,0)" + far, x -> x.store(n, 0, 0), BAD);
            refused("store(0,n,0)" + far, x -> x.store(0, n, 0), BAD);
            refused("store(0,0,n)" + far, x -> x.store(0, 0, n), BAD);
            refused("over(n)" + far, x -> x.over(n), BAD);
            refused("count(n)" + far, x -> x.count(n), BAD);
        }
    }

    private static void ofSeveralTheFirst() {
        CHECK.says("Of several the first in this order");
        refused("give: wrong antenna, and it has one", x -> x.give(3, 3), BAD);
        refused("give: wrong antenna, and it fits none", x -> x.give(4, -1), BAD);
        refused("rate: a slot that is none, and none of its", x -> x.rate(0, 60), BAD);
        refused("rate: a pass that is none", x -> x.rate(19, 59), BAD);
        refused("best: wrong antenna, and not so many", x -> x.best(3, 24), BAD);
        refused("plan: beyond the window, and none", x -> x.plan(0, 18, 0, 1), BAD);
        refused("antenna: asked what is not told, not out", x -> x.antenna(2, 7), BAD);
        refused("pass: asked what is not told, in no contact", x -> x.pass(0, 7), BAD);
    }

    private static void full() {
        CHECK.says("FULL: it has 200.");
        StationPasses x = Told.told("g0,1;".repeat(40));
        StationPasses y = Told.told("g0,1;".repeat(40));
        CHECK.due("write of a good letter", x.write('g'), FULL);
        CHECK.due("write of a wrong letter", x.write(31), BAD);
        CHECK.due("changes nothing", story(x).equals(story(y)) ? 1 : 0, 1);
        CHECK.due("fault of the fourth", x.fault(), 15);
    }

    private static void noneToUndo() {
        CHECK.says("UNDONE: how many more can be. NO.");
        StationPasses x = new StationPasses();
        CHECK.due("undo of none", x.undo(), NO);
        CHECK.due("undo of none again", x.undo(), NO);
        CHECK.due("changes nothing", story(x).equals(story(new StationPasses())) ? 1 : 0, 1);
        StationPasses y = midst();
        for (int n = 5; n >= 0; n--) {
            CHECK.due("undo", y.undo(), n);
        }
        CHECK.due("undo of a seventh", y.undo(), NO);
        CHECK.due("pass(0,5) as behind the first change", y.pass(0, 5), 0);
        CHECK.due("count(4)", y.count(4), 1);
    }

    private static void askedChangesNothing() {
        CHECK.says("All that is asked is told of all as it stands then");
        Call asked = x -> x.fault() + x.sat(0, 6) + x.antenna(1, 3) + x.seen(0, 0, 0) + x.pass(3, 5) + x.rate(3, 9)
            + x.why(0, 0) + x.best(0, 0) + x.plan(0, 0, 6, -1) + x.plan(1, 13, 6, 0) + x.bound(0) + x.store(0, 59, 1)
            + x.over(0) + x.count(8);
        StationPasses x = midst();
        asked.on(x);
        CHECK.due("what is asked changes nothing", story(x).equals(story(midst())) ? 1 : 0, 1);
    }
}
