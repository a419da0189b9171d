/** The edges that the document's part 1 names, a test for each sentence: slots, numbers, passes, rates. */
public final class TermsEdgesTest {
    private static final int BAD = -1, NO = -2, NONE = -4;

    private static final Check CHECK = new Check();

    public static void main(String[] args) {
        slots();
        calls512();
        constants();
        fourSats();
        threeStations();
        fourAntennas();
        phase();
        period();
        band();
        holds();
        fills();
        lag();
        width();
        place();
        kind();
        kindTakesBand();
        setup();
        seenBelowZero();
        seenLessThanWidth();
        widthAboutPeriod();
        passEndsWithSlots();
        passOfOneStation();
        passesBySlot();
        passesBySat();
        passesByStation();
        passes24();
        passesBehindAreNone();
        rateFromBothEnds();
        rateOfOneAndTwo();
        rateWide();
        volumeOfAllSlots();
        halves();
        CHECK.end();
    }

    private static void due(String call, int got, int want) {
        CHECK.due(call, got, want);
    }

    private static void slots() {
        CHECK.says("There are SLOTS 0 to 59.");
        StationPasses x = new StationPasses();
        due("seen(0,0,-1)", x.seen(0, 0, -1), BAD);
        due("seen(0,0,0)", x.seen(0, 0, 0), 1);
        due("seen(1,0,59)", x.seen(1, 0, 59), 1);
        due("seen(1,0,60)", x.seen(1, 0, 60), BAD);
        due("rate(0,-1)", x.rate(0, -1), BAD);
        due("rate(0,0)", x.rate(0, 0), 2);
        due("rate(17,59)", x.rate(17, 59), 3);
        due("rate(17,60)", x.rate(17, 60), BAD);
        due("store(0,-1,0)", x.store(0, -1, 0), BAD);
        due("store(0,0,0)", x.store(0, 0, 0), 2);
        due("store(0,59,0)", x.store(0, 59, 0), 60);
        due("store(0,60,0)", x.store(0, 60, 0), BAD);
        due("out(0,-1,0)", x.out(0, -1, 0), BAD);
        due("out(0,0,60)", x.out(0, 0, 60), BAD);
        due("out(0,60,59)", x.out(0, 60, 59), BAD);
        due("out(0,59,-1)", x.out(0, 59, -1), BAD);
        due("out(0,0,59)", x.out(0, 0, 59), 0);
        due("antenna(0,4)", x.antenna(0, 4), 59);
    }

    private static void calls512() {
        CHECK.says("An object is used for at most 512 calls after it has been made");
        StationPasses x = new StationPasses();
        for (int n = 1; n <= 510; n++) {
            boolean gives = n % 2 == 1;
            due("call " + n, gives ? x.give(0, 1) : x.take(0), 1);
        }
        due("call 511", x.undo(), 5);
        due("call 512", x.pass(0, 5), 1);
    }

    private static void constants() {
        CHECK.says("BAD = -1, NO = -2, FULL = -3, NONE = -4");
        due("BAD", StationPasses.BAD, -1);
        due("NO", StationPasses.NO, -2);
        due("FULL", StationPasses.FULL, -3);
        due("NONE", StationPasses.NONE, -4);
    }

    // ---- how many there can be

    private static void fourSats() {
        CHECK.says("A SAT (4 at most, 0, 1, ..)");
        String four = "s1,6,0,1,0;s2,6,0,1,0;s3,6,0,1,0;s4,6,0,1,0;";
        StationPasses x = Told.told(four);
        due("fault of four", x.fault(), NONE);
        due("lay of four", x.lay(), 0);
        due("count(0)", x.count(0), 4);
        for (int i = 0; i < 4; i++) {
            due("sat(" + i + ",0)", x.sat(i, 0), 1 + i);
        }
        due("sat(4,0)", x.sat(4, 0), BAD);
        Told.write(x, "s5,6,0,1,0;");
        due("fault of five", x.fault(), four.length());
        due("lay of five", x.lay(), NO);
        due("count(0) as it was", x.count(0), 4);
    }

    private static void threeStations() {
        CHECK.says("A STATION (3 at most)");
        String three = "s0,60,0,1,0;g1,1;g2,1;g3,1;";
        StationPasses x = Told.told(three);
        due("fault of three", x.fault(), NONE);
        due("lay of three", x.lay(), 3);
        due("count(1)", x.count(1), 3);
        for (int j = 0; j < 3; j++) {
            due("seen(0," + j + ",..)", x.seen(0, j, 1 + j), 1);
        }
        due("seen(0,3,0)", x.seen(0, 3, 0), BAD);
        Told.write(x, "g4,1;");
        due("fault of four", x.fault(), three.length());
        due("lay of four", x.lay(), NO);
        due("count(1) as it was", x.count(1), 3);
    }

    private static void fourAntennas() {
        CHECK.says("An ANTENNA (4 at most)");
        String four = "g0,1;a0,0,1;a0,0,2;a0,0,3;a0,0,4;";
        StationPasses x = Told.told(four);
        due("fault of four", x.fault(), NONE);
        due("lay of four", x.lay(), 0);
        due("count(2)", x.count(2), 4);
        for (int a = 0; a < 4; a++) {
            due("antenna(" + a + ",2)", x.antenna(a, 2), 1 + a);
        }
        due("antenna(4,2)", x.antenna(4, 2), BAD);
        Told.write(x, "a0,0,5;");
        due("fault of five", x.fault(), four.length());
        due("lay of five", x.lay(), NO);
        due("count(2) as it was", x.count(2), 4);
    }

    // ---- the numbers of sats, stations and antennas

    private interface Asked {
        int of(StationPasses x);
    }

    /** The number n between head and tail, which begins an item at this place, is taken and told. */
    private static void taken(String head, int n, String tail, Asked asked, int want) {
        StationPasses x = Told.told(head + n + tail);
        due("fault of " + head + n + tail, x.fault(), NONE);
        due("lay of " + head + n + tail, x.lay() >= 0 ? 1 : 0, 1);
        due("told of " + head + n + tail, asked.of(x), want);
    }

    private static void refused(String head, String number, String tail) {
        StationPasses x = Told.told(head + number + tail);
        due("fault of " + head + number + tail, x.fault(), head.lastIndexOf(';') + 1);
        due("lay of " + head + number + tail, x.lay(), NO);
    }

    private static void phase() {
        CHECK.says("a PHASE (0 to 59)");
        taken("s", 0, ",6,0,1,0;", x -> x.sat(0, 0), 0);
        taken("s", 59, ",6,0,1,0;", x -> x.sat(0, 0), 59);
        refused("s", "60", ",6,0,1,0;");
        refused("s", "99", ",6,0,1,0;");
        refused("s", "-1", ",6,0,1,0;");
    }

    private static void period() {
        CHECK.says("a PERIOD (6 to 60)");
        refused("s0,", "0", ",0,1,0;");
        refused("s0,", "5", ",0,1,0;");
        taken("s0,", 6, ",0,1,0;", x -> x.sat(0, 1), 6);
        taken("s0,", 60, ",0,1,0;", x -> x.sat(0, 1), 60);
        refused("s0,", "61", ",0,1,0;");
        StationPasses shortest = Told.laid("s0,6,0,1,0;g0,1;");
        due("passes of the shortest", shortest.count(3), 10);
        StationPasses longest = Told.laid("s0,60,0,1,0;g0,1;");
        due("passes of the longest", longest.count(3), 1);
    }

    private static void band() {
        CHECK.says("a BAND (0 NARROW, 1 WIDE)");
        taken("s0,6,", 0, ",1,0;", x -> x.sat(0, 2), 0);
        taken("s0,6,", 1, ",1,0;", x -> x.sat(0, 2), 1);
        refused("s0,6,", "2", ",1,0;");
        due("rate of NARROW", Told.laid("s0,6,0,1,0;g0,1;").rate(0, 0), 2);
        due("rate of WIDE", Told.laid("s0,6,1,1,0;g0,1;").rate(0, 0), 3);
    }

    private static void holds() {
        CHECK.says("a STORE that holds so much (1 to 99)");
        refused("s0,6,0,", "0", ",0;");
        taken("s0,6,0,", 1, ",0;", x -> x.sat(0, 3), 1);
        taken("s0,6,0,", 99, ",0;", x -> x.sat(0, 3), 99);
        refused("s0,6,0,", "100", ",0;");
        due("the least is full of 1", Told.laid("s0,6,0,1,9;").store(0, 59, 0), 2);
        due("the most is full of 99", Told.laid("s0,6,0,99,9;").store(0, 59, 0), 198);
    }

    private static void fills() {
        CHECK.says("FILLS (0 to 9)");
        taken("s0,6,0,99,", 0, ";", x -> x.sat(0, 4), 0);
        taken("s0,6,0,99,", 9, ";", x -> x.sat(0, 4), 9);
        refused("s0,6,0,99,", "10", ";");
        due("by the least nothing comes in", Told.laid("s0,6,0,99,0;").store(0, 59, 0), 0);
        due("by the most 9 a slot", Told.laid("s0,6,0,99,9;").store(0, 0, 0), 18);
    }

    private static void lag() {
        CHECK.says("a LAG (0 to 59)");
        taken("s0,60,0,1,0;g", 0, ",1;", x -> x.pass(0, 0), 0);
        taken("s0,60,0,1,0;g", 59, ",1;", x -> x.pass(0, 0), 59);
        refused("s0,60,0,1,0;g", "60", ",1;");
    }

    private static void width() {
        CHECK.says("a WIDTH (1 to 9)");
        refused("s0,60,0,1,0;g0,", "0", ";");
        taken("s0,60,0,1,0;g0,", 1, ";", x -> x.pass(0, 1), 0);
        taken("s0,60,0,1,0;g0,", 9, ";", x -> x.pass(0, 1), 8);
        refused("s0,60,0,1,0;g0,", "10", ";");
    }

    private static void place() {
        CHECK.says("An ANTENNA (4 at most) is at a STATION");
        taken("g0,1;g0,1;g0,1;a", 0, ",0,0;", x -> x.antenna(0, 0), 0);
        taken("g0,1;g0,1;g0,1;a", 2, ",0,0;", x -> x.antenna(0, 0), 2);
        refused("g0,1;g0,1;g0,1;a", "3", ",0,0;");
    }

    private static void kind() {
        CHECK.says("of a KIND (0 takes NARROW ones, 1 WIDE ones, 2 both)");
        for (int k = 0; k <= 2; k++) {
            taken("g0,1;a0,", k, ",0;", x -> x.antenna(0, 1), k);
        }
        refused("g0,1;a0,", "3", ",0;");
    }

    private static void kindTakesBand() {
        CHECK.says("of a KIND (0 takes NARROW ones, 1 WIDE ones, 2 both)");
        StationPasses x = Told.laid("s0,60,0,9,0;s0,60,1,9,0;g0,1;a0,0,0;a0,1,0;a0,2,0;");
        due("antennas for a NARROW one", x.pass(0, 6), 0b101);
        due("antennas for a WIDE one", x.pass(1, 6), 0b110);
    }

    private static void setup() {
        CHECK.says("with a SETUP (0 to 5)");
        taken("g0,1;a0,0,", 0, ";", x -> x.antenna(0, 2), 0);
        taken("g0,1;a0,0,", 5, ";", x -> x.antenna(0, 2), 5);
        refused("g0,1;a0,0,", "6", ";");
    }

    // ---- what is seen

    private static void seenBelowZero() {
        CHECK.says("modulo PERIOD (0 to PERIOD less 1, also below 0)");
        // in slot 0 it is -118, which is 1 by 7; slot 5 has 6, the most; slot 6 has 0
        StationPasses x = Told.laid("s59,7,0,1,0;g59,2;");
        int[] seen = {1, 0, 0, 0, 0, 0, 1, 1, 0};
        for (int t = 0; t < seen.length; t++) {
            due("seen(0,0," + t + ")", x.seen(0, 0, t), seen[t]);
        }
        // slot 58 is -1, slot 59 is 0
        StationPasses y = Told.laid("s59,60,0,1,0;g0,1;");
        due("seen in slot 58", y.seen(0, 0, 58), 0);
        due("seen in slot 59", y.seen(0, 0, 59), 1);
        due("seen in slot 0", y.seen(0, 0, 0), 0);
    }

    private static void seenLessThanWidth() {
        CHECK.says("is less than WIDTH");
        for (int width = 1; width <= 9; width++) {
            StationPasses x = Told.laid("s10,30,0,1,0;g5," + width + ";");
            due("one ahead", x.seen(0, 0, 14), 0);
            due("at PHASE and LAG", x.seen(0, 0, 15), 1);
            due("WIDTH less 1", x.seen(0, 0, 14 + width), 1);
            due("WIDTH", x.seen(0, 0, 15 + width), 0);
            due("a PERIOD on", x.seen(0, 0, 45), 1);
        }
    }

    private static void widthAboutPeriod() {
        CHECK.says("A PASS is a row of SLOTS, side by side, as long as can be");
        for (int width = 6; width <= 9; width++) {
            StationPasses always = Told.laid("s3,6,0,1,0;g0," + width + ";");
            due("seen always, so one pass", always.count(3), 1);
            due("from", always.pass(0, 0), 0);
            due("to", always.pass(0, 1), 59);
        }
        StationPasses gaps = Told.laid("s0,7,0,1,0;g0,6;");
        due("a slot between", gaps.count(3), 9);
        due("first to", gaps.pass(0, 1), 5);
        due("second from", gaps.pass(1, 0), 7);
        due("last from", gaps.pass(8, 0), 56);
        due("last to", gaps.pass(8, 1), 59);
    }

    private static void passEndsWithSlots() {
        CHECK.says("There are SLOTS 0 to 59.");
        // slots 59 and 0 are not side by side: no pass goes round
        StationPasses x = Told.laid("s59,60,0,9,0;g0,9;");
        int[][] passes = {{0, 7, 0, 0, 40}, {59, 59, 0, 0, 2}};
        due("count(3)", x.count(3), 2);
        for (int p = 0; p < 2; p++) {
            for (int what = 0; what < 5; what++) {
                due("pass(" + p + "," + what + ")", x.pass(p, what), passes[p][what]);
            }
        }
        due("rate(0,0) of a row that is cut", x.rate(0, 0), 2);
        due("rate(1,59) of a row that is cut", x.rate(1, 59), 2);
    }

    private static void passOfOneStation() {
        CHECK.says("in all of which a SAT is SEEN from a STATION");
        StationPasses x = Told.laid("s0,60,0,1,0;s6,60,0,1,0;g0,3;g3,3;");
        int[][] passes = {{0, 2, 0, 0}, {3, 5, 0, 1}, {6, 8, 1, 0}, {9, 11, 1, 1}};
        due("count(3)", x.count(3), 4);
        for (int p = 0; p < 4; p++) {
            for (int what = 0; what < 4; what++) {
                due("pass(" + p + "," + what + ")", x.pass(p, what), passes[p][what]);
            }
        }
    }

    // ---- how passes are numbered

    private static void order(StationPasses x, int[][] want) {
        due("count(3)", x.count(3), want.length);
        for (int p = 0; p < want.length; p++) {
            due("slot of " + p, x.pass(p, 0), want[p][0]);
            due("sat of " + p, x.pass(p, 2), want[p][1]);
            due("station of " + p, x.pass(p, 3), want[p][2]);
        }
        due("none behind", x.pass(want.length, 0), BAD);
    }

    private static void passesBySlot() {
        CHECK.says("PASSES are numbered 0, 1, .. by the SLOT they begin in");
        order(Told.laid("s9,60,0,1,0;s5,60,0,1,0;g3,9;g0,1;"),
            new int[][] {{5, 1, 1}, {8, 1, 0}, {9, 0, 1}, {12, 0, 0}});
    }

    private static void passesBySat() {
        CHECK.says("then by SAT");
        // longer ones and lower stations are no sooner
        order(Told.laid("s0,60,0,1,0;s1,60,0,1,0;g0,9;g1,1;"),
            new int[][] {{0, 0, 0}, {1, 0, 1}, {1, 1, 0}, {2, 1, 1}});
    }

    private static void passesByStation() {
        CHECK.says("then by STATION");
        order(Told.laid("s4,60,0,1,0;s4,60,0,1,0;g0,1;g0,9;g0,1;"),
            new int[][] {{4, 0, 0}, {4, 0, 1}, {4, 0, 2}, {4, 1, 0}, {4, 1, 1}, {4, 1, 2}});
    }

    private static final String THREE_BY_SIX = "s0,10,0,1,0;s0,10,0,1,0;s0,10,0,1,0;";

    private static void passes24() {
        CHECK.says("24 of them at most");
        StationPasses one = Told.told(THREE_BY_SIX + "s0,12,0,1,0;g0,1;");
        due("lay of 23", one.lay(), 23);
        due("the last of 23", one.pass(22, 0), 50);
        due("behind 23", one.pass(23, 0), BAD);
        StationPasses two = Told.told(THREE_BY_SIX + "s0,10,0,1,0;g0,1;");
        due("lay of 24", two.lay(), 24);
        due("the last of 24", two.pass(23, 0), 50);
        due("the last of 24", two.pass(23, 2), 3);
        due("behind 24", two.pass(24, 0), BAD);
        StationPasses three = Told.told(THREE_BY_SIX + "s0,9,0,1,0;g0,1;");
        due("lay of 25", three.lay(), 24);
        due("count of 25", three.count(3), 24);
    }

    private static void passesBehindAreNone() {
        CHECK.says("those behind are none");
        // the 25th would be of sat 3 in slot 54
        StationPasses x = Told.laid(THREE_BY_SIX + "s0,9,0,1,9;g0,1;a0,2,0;");
        due("pass(23,0)", x.pass(23, 0), 50);
        due("pass(24,0)", x.pass(24, 0), BAD);
        due("rate(24,54)", x.rate(24, 54), BAD);
        due("give(24,0)", x.give(24, 0), BAD);
        due("why(24,0)", x.why(24, 0), BAD);
        due("take(24)", x.take(24), BAD);
        due("plan(0,24,6,-1)", x.plan(0, 24, 6, -1), BAD);
        due("adopt(0,24,6)", x.adopt(0, 24, 6), BAD);
        due("bound(24)", x.bound(24), BAD);
        due("sat(3,5)", x.sat(3, 5), 6);
        due("it is seen all the same", x.seen(3, 0, 54), 1);
        // 0 9 10 18 20 27 30 36 40 45 50
        due("best(0,-2)", x.best(0, -2), 11);
        due("best(0,-1)", x.best(0, -1), 22);
        due("best(0,11)", x.best(0, 11), NONE);
        due("bound(21)", x.bound(21), 6);
        due("the window of 21 is of 3", x.plan(0, 21, 6, 3), BAD);
    }

    // ---- rates and volumes

    private static void rateFromBothEnds() {
        CHECK.says("RATE in the k-th SLOT (k 0 first) of a PASS of n SLOTS: 1 and the lesser of k and n - 1 - k");
        int[][] rates = {{2}, {2, 2}, {2, 4, 2}, {2, 4, 4, 2}, {2, 4, 6, 4, 2}, {2, 4, 6, 6, 4, 2},
            {2, 4, 6, 8, 6, 4, 2}, {2, 4, 6, 8, 8, 6, 4, 2}, {2, 4, 6, 8, 10, 8, 6, 4, 2}};
        for (int n = 1; n <= 9; n++) {
            StationPasses x = Told.laid("s7,60,0,1,0;g0," + n + ";");
            due("rate ahead of " + n, x.rate(0, 6), NONE);
            for (int k = 0; k < n; k++) {
                due("rate " + k + " of " + n, x.rate(0, 7 + k), rates[n - 1][k]);
            }
            due("rate behind " + n, x.rate(0, 7 + n), NONE);
        }
        StationPasses all = Told.laid("s0,6,0,1,0;g0,6;");
        int[] slots = {0, 1, 29, 30, 58, 59};
        int[] due = {2, 4, 60, 60, 4, 2};
        for (int n = 0; n < slots.length; n++) {
            due("rate in " + slots[n] + " of 60", all.rate(0, slots[n]), due[n]);
        }
    }

    private static void rateOfOneAndTwo() {
        CHECK.says("1 and the lesser of k and n - 1 - k, together");
        // of 1 and of 2 slots that is 1 in each
        due("of 1, NARROW", Told.laid("s0,60,0,1,0;g0,1;").pass(0, 4), 2);
        due("of 1, WIDE", Told.laid("s0,60,1,1,0;g0,1;").pass(0, 4), 3);
        due("of 2, NARROW", Told.laid("s0,60,0,1,0;g0,2;").pass(0, 4), 4);
        due("of 2, WIDE", Told.laid("s0,60,1,1,0;g0,2;").pass(0, 4), 6);
    }

    private static void rateWide() {
        CHECK.says("of a WIDE SAT one and a half times as much");
        StationPasses x = Told.laid("s0,60,1,1,0;g0,9;");
        int[] rates = {3, 6, 9, 12, 15, 12, 9, 6, 3};
        for (int k = 0; k < 9; k++) {
            due("rate(0," + k + ")", x.rate(0, k), rates[k]);
        }
    }

    private static void volumeOfAllSlots() {
        CHECK.says("VOLUME of a PASS: RATES of all its SLOTS together");
        int[] volumes = {2, 4, 8, 12, 18, 24, 32, 40, 50};
        for (int n = 1; n <= 9; n++) {
            due("volume of " + n, Told.laid("s0,60,0,1,0;g0," + n + ";").pass(0, 4), volumes[n - 1]);
            due("volume of " + n + ", WIDE", Told.laid("s0,60,1,1,0;g0," + n + ";").pass(0, 4), volumes[n - 1] * 3 / 2);
        }
        due("volume of 60", Told.laid("s0,6,0,1,0;g0,9;").pass(0, 4), 1860);
        due("volume of 60, WIDE", Told.laid("s0,6,1,1,0;g0,9;").pass(0, 4), 2790);
    }

    private static void halves() {
        CHECK.says("(RATES, VOLUMES, what is in a STORE are told in halves: twice as much.)");
        StationPasses x = Told.laid("s1,60,1,1,2;g0,1;a0,1,0;");
        due("rate of 1 and a half", x.rate(0, 1), 3);
        due("volume of 1 and a half", x.pass(0, 4), 3);
        due("bound of 1 and a half", x.bound(0), 3);
        due("best of 1 and a half", x.best(0, -1), 3);
        due("plan of 1 and a half", x.plan(0, 0, 6, -1), 3);
        x.give(0, 0);
        due("contacts of 1 and a half", x.count(9), 3);
        // 2 come in in slot 0, one too many; 2 more in slot 1, where 1 and a half go out
        due("in the store behind slot 0", x.store(0, 0, 0), 2);
        due("lost behind slot 0", x.store(0, 0, 1), 2);
        due("in the store behind slot 1", x.store(0, 1, 0), 2);
        due("lost behind slot 1: a half more", x.store(0, 1, 1), 3);
        due("got behind slot 1", x.store(0, 1, 2), 3);
        due("lost behind slot 1 without a contact", Told.laid("s1,60,1,1,2;g0,1;").store(0, 1, 1), 6);
    }
}
