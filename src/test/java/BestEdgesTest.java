/** The edges that the document's part 3 names, a test for each sentence: best, windows, plans, bounds. */
public final class BestEdgesTest {
    private static final int BAD = -1, NONE = -4;

    /** Passes of one slot each at 0, 10, .. 50, and one antenna for all. */
    private static final String SIX = "s0,10,0,9,0;g0,1;a0,0,0;";
    /** Passes of one slot each at 0, 9, .. 54. */
    private static final String SEVEN = "s0,9,0,9,0;g0,1;a0,0,0;";

    private static final Check CHECK = new Check();

    public static void main(String[] args) {
        bestOfNone();
        bestWithWhatIsOut();
        bestOthersNotLookedAt();
        bestTwoAndTwo();
        bestGreatestVolume();
        bestFewestPasses();
        bestFirst();
        bestFirstThenSecond();
        bestAsked();
        bestOf24();
        windowOf6();
        windowAtTheEnd();
        othersStay();
        othersSpeakAgainst();
        changesAtMost();
        changesOfAllKinds();
        noChange();
        byMost();
        byLeast();
        fewestContacts();
        fewestChanges();
        firstWay();
        firstWayOfAntennas();
        planAsked();
        planWithoutAntennas();
        planTakesNoOther();
        planOfWindowsInTurn();
        planned();
        bound();
        boundOfNone();
        CHECK.end();
    }

    private static void due(String call, int got, int want) {
        CHECK.due(call, got, want);
    }

    // ---- best

    private static void best(String name, StationPasses x, int a, int volume, int... passes) {
        due(name + ": best(" + a + ",-1)", x.best(a, -1), volume);
        due(name + ": best(" + a + ",-2)", x.best(a, -2), passes.length);
        for (int k = 0; k < passes.length; k++) {
            due(name + ": best(" + a + "," + k + ")", x.best(a, k), passes[k]);
        }
        due(name + ": best(" + a + "," + passes.length + ")", x.best(a, passes.length), NONE);
    }

    private static void bestOfNone() {
        CHECK.says("BEST of an ANTENNA: of sets of PASSES that FIT it");
        best("no sat", Told.laid("g0,1;a0,2,0;"), 0, 0);
        best("no sat of its band", Told.laid("s0,10,0,9,0;g0,1;a0,1,0;"), 0, 0);
        best("no sat over its station", Told.laid("s0,60,0,9,0;g0,9;g0,9;a0,2,0;"), 0, 50, 0);
        best("of two stations", Told.laid("s0,60,0,9,0;s9,60,1,9,0;g0,9;g0,9;a1,1,0;"), 0, 75, 3);
    }

    private static void bestWithWhatIsOut() {
        CHECK.says("(with what is OUT now)");
        StationPasses x = Told.laid(SIX);
        best("not out", x, 0, 12, 0, 1, 2, 3, 4, 5);
        x.out(0, 0, 0);
        best("out in slot 0", x, 0, 10, 1, 2, 3, 4, 5);
        x.out(0, 50, 59);
        best("out at the end", x, 0, 10, 0, 1, 2, 3, 4);
        x.out(0, 10, 40);
        best("out between", x, 0, 4, 0, 5);
        x.out(0, 11, 19);
        best("out where there is none", x, 0, 12, 0, 1, 2, 3, 4, 5);
        x.out(0, 0, 59);
        best("out in all", x, 0, 0);
        x.out(0, 59, 0);
        best("not out any more", x, 0, 12, 0, 1, 2, 3, 4, 5);
    }

    private static void bestOthersNotLookedAt() {
        CHECK.says("other ANTENNAS not looked at");
        StationPasses x = Told.laid("s0,20,0,9,0;g0,3;g0,3;a0,0,0;a1,0,0;a0,2,0;");
        int[] mine = {0, 2, 4};
        best("alone", x, 0, 24, mine);
        x.give(0, 2);
        x.give(3, 1);
        best("a pass has another antenna, a sat is elsewhere", x, 0, 24, mine);
        x.give(4, 0);
        best("it has one itself", x, 0, 24, mine);
        x.out(2, 0, 59);
        x.out(1, 0, 59);
        best("others are out", x, 0, 24, mine);
        StationPasses twice = Told.laid("s0,60,0,9,0;s3,60,0,9,0;g0,3;a0,0,0;");
        best("two sats", twice, 0, 16, 0, 1);
    }

    private static void bestTwoAndTwo() {
        CHECK.says("and go together on it, two and two");
        for (int setup = 0; setup <= 5; setup++) {
            StationPasses close = Told.laid("s0,60,0,9,0;s" + (2 + setup) + ",60,0,9,0;g0,3;a0,0," + setup + ";");
            best("a setup of " + setup + " is not kept", close, 0, 8, 0);
            StationPasses far = Told.laid("s0,60,0,9,0;s" + (3 + setup) + ",60,0,9,0;g0,3;a0,0," + setup + ";");
            best("a setup of " + setup + " is kept", far, 0, 16, 0, 1);
        }
        // 0-8 overlaps 4-12, which overlaps 9-17
        best("three in a row", Told.laid("s0,60,0,9,0;s4,60,0,9,0;s9,60,0,9,0;g0,9;a0,0,0;"), 0, 100, 0, 2);
    }

    private static void bestGreatestVolume() {
        CHECK.says("that of the greatest VOLUME together");
        // 50, or 75 that is wide, or both ends together
        best("the wide one", Told.laid("s0,60,0,9,0;s1,60,1,9,0;g0,9;a0,2,0;"), 0, 75, 1);
        best("two narrow ones", Told.laid("s0,60,0,9,0;s5,60,1,9,0;s9,60,0,9,0;g0,9;a0,2,0;"), 0, 100, 0, 2);
        best("the more, the later", Told.laid("s55,60,0,9,0;s1,60,0,9,0;g0,9;a0,2,0;"), 0, 68, 1, 2);
    }

    private static void bestFewestPasses() {
        CHECK.says("of several that of the fewest PASSES");
        // 0-3 (12) and 10-15 (24), or 5-10 (36)
        best("one of as much", Told.laid("s58,60,0,9,0;s5,60,1,9,0;s10,60,0,9,0;g0,6;a0,2,2;"), 0, 40, 1, 3);
    }

    private static void bestFirst() {
        CHECK.says("of several the first (that with the lower first PASS");
        best("of two", Told.laid("s0,60,0,9,0;s1,60,0,9,0;g0,9;a0,2,0;"), 0, 50, 0);
        best("of three in one slot", Told.laid("s8,60,0,9,0;s8,60,0,9,0;s8,60,0,9,0;g0,9;a0,2,0;"), 0, 50, 0);
    }

    private static void bestFirstThenSecond() {
        CHECK.says("then the second, ..)");
        // 0-8, then 20-28 or 21-29, then 40-48 or 41-49
        StationPasses x = Told.laid("s0,20,0,9,0;s21,60,0,9,0;s41,60,0,9,0;g0,9;a0,2,5;");
        due("five passes", x.count(3), 5);
        best("each time the first", x, 0, 150, 0, 1, 3);
        x.out(0, 20, 20);
        best("the second is another", x, 0, 150, 0, 2, 3);
        x.out(0, 40, 40);
        best("the third is another", x, 0, 150, 0, 1, 4);
    }

    private static void bestAsked() {
        CHECK.says("VOLUME (k = -1), how many PASSES (-2), the k-th PASS (k 0 or more). BAD (k below -2); NONE: not so many.");
        StationPasses x = Told.laid(SIX);
        due("best(0,-3)", x.best(0, -3), BAD);
        due("best(0,-2)", x.best(0, -2), 6);
        due("best(0,-1)", x.best(0, -1), 12);
        due("best(0,0)", x.best(0, 0), 0);
        due("best(0,5)", x.best(0, 5), 5);
        due("best(0,6)", x.best(0, 6), NONE);
        due("best(0,24)", x.best(0, 24), NONE);
        due("best(0,25)", x.best(0, 25), NONE);
        due("best(0,most)", x.best(0, Integer.MAX_VALUE), NONE);
        due("best(0,least)", x.best(0, Integer.MIN_VALUE), BAD);
        due("best(1,0)", x.best(1, 0), BAD);
        due("best(1,9)", x.best(1, 9), BAD);
        due("best(-1,0)", x.best(-1, 0), BAD);
    }

    private static void bestOf24() {
        CHECK.says("24 of them at most");
        StationPasses x = Told.laid("s0,10,0,9,0;s2,10,0,9,0;s4,10,0,9,0;s6,10,0,9,0;g0,1;a0,0,0;");
        due("all of them", x.best(0, -2), 24);
        for (int k = 0; k < 24; k++) {
            due("best(0," + k + ")", x.best(0, k), k);
        }
        due("best(0,24)", x.best(0, 24), NONE);
        due("best(0,-1)", x.best(0, -1), 48);
    }

    // ---- windows and ways

    /** What plan answers for k = -1, -2, -3, -4, then for each pass of the window, and that no pass is behind. */
    private static void plan(String name, StationPasses x, int law, int f, int c, int... want) {
        for (int n = 0; n <= want.length; n++) {
            int k = n < 4 ? -1 - n : n - 4;
            int due = n < want.length ? want[n] : BAD;
            due(name + ": plan(" + law + "," + f + "," + c + "," + k + ")", x.plan(law, f, c, k), due);
        }
    }

    private static void windowOf6() {
        CHECK.says("A WINDOW of PASS f is f and the next ones, 6 at most.");
        StationPasses x = Told.laid(SEVEN);
        plan("of 7, from 0", x, 0, 0, 6, 12, 0, 6, 6, 0, 0, 0, 0, 0, 0);
        plan("of 7, from 1", x, 0, 1, 6, 12, 0, 6, 6, 0, 0, 0, 0, 0, 0);
        due("bound(0)", x.bound(0), 12);
        due("bound(1)", x.bound(1), 12);
        due("adopt(0,0,6)", x.adopt(0, 0, 6), 6);
        due("the seventh stays", x.pass(6, 5), NONE);
        due("adopt(0,1,6): the one of it that is left", x.adopt(0, 1, 6), 1);
        due("all", x.count(4), 7);
    }

    private static void windowAtTheEnd() {
        CHECK.says("A WINDOW of PASS f is f and the next ones, 6 at most.");
        StationPasses x = Told.laid(SEVEN);
        plan("of 7, from 2", x, 0, 2, 6, 10, 0, 5, 5, 0, 0, 0, 0, 0);
        plan("of 7, from 5", x, 0, 5, 6, 4, 0, 2, 2, 0, 0);
        plan("of 7, from 6", x, 0, 6, 6, 2, 0, 1, 1, 0);
        due("bound(2)", x.bound(2), 10);
        due("bound(6)", x.bound(6), 2);
        due("adopt(0,6,6)", x.adopt(0, 6, 6), 1);
        due("the others stay", x.count(4), 1);
        due("plan(0,7,6,-1)", x.plan(0, 7, 6, -1), BAD);
        due("plan(0,-1,6,-1)", x.plan(0, -1, 6, -1), BAD);
        due("adopt(0,7,6)", x.adopt(0, 7, 6), BAD);
        due("adopt(0,-1,6)", x.adopt(0, -1, 6), BAD);
        due("bound(7)", x.bound(7), BAD);
        due("bound(-1)", x.bound(-1), BAD);
        plan("of 1", Told.laid("s0,60,0,9,0;g0,1;a0,0,0;"), 0, 0, 6, 2, 0, 1, 1, 0);
        StationPasses y = Told.laid("s0,10,0,9,0;s2,10,0,9,0;s4,10,0,9,0;s6,10,0,9,0;g0,1;a0,0,0;");
        plan("of 24, from 18", y, 0, 18, 6, 12, 0, 6, 6, 0, 0, 0, 0, 0, 0);
        plan("of 24, from 19", y, 0, 19, 6, 10, 0, 5, 5, 0, 0, 0, 0, 0);
        plan("of 24, from 23", y, 0, 23, 6, 2, 0, 1, 1, 0);
        due("of 24, from 24", y.plan(0, 24, 6, -1), BAD);
    }

    private static void othersStay() {
        CHECK.says("all others stay as they are");
        StationPasses x = Told.laid("s0,10,0,9,0;g0,1;a0,0,0;a0,0,0;");
        x.give(0, 1);
        x.give(5, 1);
        plan("from 1", x, 0, 1, 6, 10, 0, 5, 4, 0, 0, 0, 0, 1);
        due("adopt(1,1,6): of no use, so none", x.adopt(1, 1, 6), 1);
        due("in the window", x.pass(5, 5), NONE);
        due("outside", x.pass(0, 5), 1);
    }

    private static void othersSpeakAgainst() {
        CHECK.says("so that CONTACTS are as told.");
        // 0-5, 6-11, 12-17 on an antenna with a setup of 1
        StationPasses setup = Told.laid("s0,60,0,9,0;s6,60,0,9,0;s12,60,0,9,0;g0,6;a0,0,1;");
        plan("by themselves", setup, 0, 0, 6, 48, 0, 2, 2, 0, NONE, 0);
        setup.give(0, 0);
        plan("a contact outside ahead", setup, 0, 1, 6, 24, 0, 1, 1, NONE, 0);
        // 0-5 at one station, 5-10 at another, of one sat
        StationPasses sat = Told.laid("s0,60,0,9,0;g0,6;g5,6;a0,0,0;a1,0,0;");
        plan("one of the two", sat, 0, 0, 6, 24, 0, 1, 1, NONE, 1);
        sat.give(0, 0);
        plan("its sat in a contact outside", sat, 0, 1, 6, 0, 0, 0, 0, NONE);
        StationPasses apart = Told.laid("s0,60,0,9,0;g0,6;g6,6;a0,0,0;a1,0,0;");
        plan("beside each other", apart, 0, 0, 6, 48, 0, 2, 2, 0, 1);
        // seven passes, the last is outside the window of 0: its antenna has a setup of 5
        StationPasses behind = Told.laid("s0,60,0,9,0;s1,8,0,9,0;g0,4;a0,0,5;");
        due("passes", behind.count(3), 9);
        behind.give(6, 0);
        due("41 to 44 has it, so 33 to 36 can't: 4 slots between", behind.plan(0, 0, 6, 5), NONE);
        due("25 to 28 can", behind.plan(0, 0, 6, 4), 0);
    }

    private static void changesAtMost() {
        CHECK.says("with c CHANGES at most (0 to 6)");
        StationPasses x = Told.laid(SIX);
        for (int c = 0; c <= 6; c++) {
            due("contacts by c = " + c, x.plan(0, 0, c, -3), c);
            due("volume by c = " + c, x.plan(0, 0, c, -1), 2 * c);
            due("changes by c = " + c, x.plan(0, 0, c, -4), c);
        }
        due("plan by c = -1", x.plan(0, 0, -1, -1), BAD);
        due("plan by c = 7", x.plan(0, 0, 7, -1), BAD);
        due("adopt by c = -1", x.adopt(0, 0, -1), BAD);
        due("adopt by c = 7", x.adopt(0, 0, 7), BAD);
        due("adopt by c = 0", x.adopt(0, 0, 0), 0);
        due("no contact", x.count(4), 0);
        due("adopt by c = 6", x.adopt(0, 0, 6), 6);
        due("all contacts", x.count(4), 6);
    }

    private static void changesOfAllKinds() {
        CHECK.says("CHANGES of a way: PASSES of the WINDOW that have otherwise than now.");
        // 0-5 narrow, 1-6 wide: antenna 0 takes both, antenna 1 narrow ones
        StationPasses x = Told.laid("s0,60,0,9,0;s1,60,1,9,0;g0,6;a0,2,0;a0,0,0;");
        x.give(0, 0);
        plan("one goes to another, one is more", x, 0, 0, 2, 60, 0, 2, 2, 1, 0);
        plan("by one change alone it stays", x, 0, 0, 1, 24, 0, 1, 0, 0, NONE);
        x.take(0);
        plan("two are more", x, 0, 0, 2, 60, 0, 2, 2, 1, 0);
        plan("the greater one is more", x, 0, 0, 1, 36, 0, 1, 1, NONE, 0);
        x.give(0, 1);
        plan("one is more, one stays", x, 0, 0, 1, 60, 0, 2, 1, 1, 0);
        StationPasses y = Told.laid(SIX);
        y.adopt(0, 0, 6);
        for (int c = 0; c <= 6; c++) {
            due("less by c = " + c, y.plan(1, 0, c, -3), 6 - c);
            due("changes by c = " + c, y.plan(1, 0, c, -4), c);
        }
    }

    private static void noChange() {
        CHECK.says("with c CHANGES at most (0 to 6)");
        StationPasses x = Told.laid("s0,60,0,1,9;s1,60,1,9,0;g0,6;a0,2,0;a0,0,0;");
        x.give(0, 0);
        plan("by MOST", x, 0, 0, 0, 24, 1054, 1, 0, 0, NONE);
        plan("by LEAST", x, 1, 0, 0, 24, 1054, 1, 0, 0, NONE);
    }

    private static void byMost() {
        CHECK.says("by MOST (0) the way by which VOLUME of all CONTACTS of the WINDOW is greatest");
        StationPasses x = Told.laid("s0,60,0,1,9;s1,60,1,99,0;g0,6;a0,2,0;");
        plan("though it loses more", x, 0, 0, 6, 36, 1078, 1, 1, NONE, 0);
        // slots 8 and 12 (2 each), or 10 between them (3): one half more is worth a contact more
        StationPasses close = Told.laid("s10,60,1,9,0;s8,60,0,9,0;s12,60,0,9,0;g0,1;a0,2,2;");
        plan("the least more, by more contacts", close, 0, 0, 6, 4, 0, 2, 2, 0, NONE, 0);
        due("plan by law -1", x.plan(-1, 0, 6, -1), BAD);
        due("plan by law 2", x.plan(2, 0, 6, -1), BAD);
        due("adopt by law -1", x.adopt(-1, 0, 6), BAD);
        due("adopt by law 2", x.adopt(2, 0, 6), BAD);
    }

    private static void byLeast() {
        CHECK.says("by LEAST (1) that by which what all SATS have LOST behind SLOT 59, together, is least");
        StationPasses x = Told.laid("s0,60,0,1,9;s1,60,1,99,0;g0,6;a0,2,0;");
        plan("though it brings less", x, 1, 0, 6, 24, 1054, 1, 1, 0, NONE);
        // both lose; the wide one brings more down. In all 1078 are lost of each
        StationPasses both = Told.laid("s0,60,0,1,9;s0,60,1,1,9;g0,6;a0,2,0;");
        plan("of two that lose", both, 1, 0, 6, 36, 2 * 1078 - 36, 1, 1, NONE, 0);
        // a contact in the last slot: 2 of the 18 that come in then
        StationPasses last = Told.laid("s59,60,0,1,9;g0,1;a0,2,0;");
        plan("in slot 59", last, 1, 0, 6, 2, 1076, 1, 1, 0);
        // full is 18, 2 come in: behind a contact in 58 there are 17, so without one in 59 a half is lost there
        StationPasses half = Told.laid("s58,60,1,9,1;g0,1;g1,1;a0,1,0;a1,1,0;");
        plan("the least less, by more contacts", half, 1, 0, 6, 6, 98, 2, 2, 0, 1);
        plan("one of the two", half, 1, 0, 1, 3, 99, 1, 1, 0, NONE);
        // a loss outside the window counts, too, though nothing in it does
        StationPasses full = Told.laid("s0,60,0,60,1;s0,60,0,1,9;g0,1;a0,0,0;");
        plan("the one that never runs over gets none", full, 1, 0, 6, 2, 1076, 1, 1, NONE, 0);
    }

    private static void fewestContacts() {
        CHECK.says("of several that of fewest CONTACTS in the WINDOW");
        plan("by LEAST, nothing is lost", Told.laid(SIX), 1, 0, 6, 0, 0, 0, 0, NONE, NONE, NONE, NONE, NONE, NONE);
        // 0-3 (12) and 10-15 (24), or 5-10 (36); 58-59 beside
        StationPasses x = Told.laid("s58,60,0,9,0;s5,60,1,9,0;s10,60,0,9,0;g0,6;a0,2,2;");
        plan("by MOST", x, 0, 0, 6, 40, 0, 2, 2, NONE, 0, NONE, 0);
        x.give(0, 0);
        x.give(2, 0);
        x.give(3, 0);
        plan("ahead of fewest changes", x, 0, 0, 6, 40, 0, 2, 3, NONE, 0, NONE, 0);
    }

    private static void fewestChanges() {
        CHECK.says("then of fewest CHANGES");
        StationPasses x = Told.laid("s0,60,0,9,0;s1,60,0,9,0;g0,6;a0,2,0;a0,2,0;");
        x.give(0, 1);
        plan("the one that has one keeps it", x, 0, 0, 6, 48, 0, 2, 1, 1, 0);
        x.give(1, 0);
        plan("both keep theirs", x, 0, 0, 6, 48, 0, 2, 0, 1, 0);
        StationPasses one = Told.laid("s0,60,0,9,0;s1,60,0,9,0;g0,6;a0,2,0;");
        one.give(0, 0);
        plan("ahead of the first way", one, 0, 0, 6, 24, 0, 1, 0, 0, NONE);
    }

    private static void firstWay() {
        CHECK.says("then the first (by PASS f: none");
        plan("none first", Told.laid(SIX), 0, 0, 2, 4, 0, 2, 2, NONE, NONE, NONE, NONE, 0, 0);
        plan("of two", Told.laid("s0,60,0,9,0;s1,60,0,9,0;g0,6;a0,2,0;"), 0, 0, 6, 24, 0, 1, 1, NONE, 0);
        StationPasses x = Told.laid(SIX);
        x.adopt(0, 0, 6);
        plan("none first, of those that go", x, 1, 0, 4, 4, 0, 2, 4, NONE, NONE, NONE, NONE, 0, 0);
    }

    private static void firstWayOfAntennas() {
        CHECK.says("then ANTENNA 0, 1, ..; then by the next one, ..)");
        StationPasses x = Told.laid("s0,60,0,9,0;s1,60,0,9,0;s2,60,0,9,0;g0,6;a0,2,0;a0,2,0;a0,2,0;a0,2,0;");
        plan("the lowest for the first", x, 0, 0, 6, 72, 0, 3, 3, 0, 1, 2);
        x.out(0, 2, 2);
        plan("out", x, 0, 0, 6, 72, 0, 3, 3, 1, 2, 3);
        x.out(0, 7, 7);
        plan("out for the third alone", x, 0, 0, 6, 72, 0, 3, 3, 0, 1, 2);
        x.out(1, 0, 0);
        plan("out for all but the first", x, 0, 0, 6, 72, 0, 3, 3, 0, 1, 2);
        x.out(3, 0, 59);
        x.out(2, 7, 7);
        plan("the third has but one", x, 0, 0, 6, 72, 0, 3, 3, 0, 2, 1);
    }

    private static void planAsked() {
        CHECK.says("the ANTENNA of the k-th PASS of the WINDOW (k 0 to 5; NONE: none). BAD (k beyond the WINDOW, too).");
        StationPasses x = Told.laid(SIX);
        due("k = -5", x.plan(0, 0, 6, -5), BAD);
        due("k = -4", x.plan(0, 0, 6, -4), 6);
        due("k = 5", x.plan(0, 0, 6, 5), 0);
        due("k = 6", x.plan(0, 0, 6, 6), BAD);
        due("k = 5 of a window of 5", x.plan(0, 1, 6, 5), BAD);
        due("k = 4 of a window of 5", x.plan(0, 1, 6, 4), 0);
        due("k = 1 of a window of 1", x.plan(0, 5, 6, 1), BAD);
        due("k = 0 of a window of 1", x.plan(0, 5, 6, 0), 0);
        due("k = 0, none", x.plan(0, 5, 0, 0), NONE);
        due("k = most", x.plan(0, 0, 6, Integer.MAX_VALUE), BAD);
        due("k = least", x.plan(0, 0, 6, Integer.MIN_VALUE), BAD);
        due("seven passes: k = 6", Told.laid(SEVEN).plan(0, 0, 6, 6), BAD);
    }

    private static void planWithoutAntennas() {
        CHECK.says("WAYS for it: each PASS of it has an ANTENNA or none");
        StationPasses none = Told.laid("s0,20,0,1,9;g0,1;");
        plan("no antenna, by MOST", none, 0, 0, 6, 0, 1078, 0, 0, NONE, NONE, NONE);
        plan("no antenna, by LEAST", none, 1, 0, 6, 0, 1078, 0, 0, NONE, NONE, NONE);
        due("adopt", none.adopt(0, 0, 6), 0);
        due("count(5)", none.count(5), 1);
        StationPasses out = Told.laid(SIX);
        out.out(0, 0, 59);
        plan("it is out", out, 0, 0, 6, 0, 0, 0, 0, NONE, NONE, NONE, NONE, NONE, NONE);
    }

    private static void planTakesNoOther() {
        CHECK.says("All that is asked is told of all as it stands then");
        StationPasses x = Told.laid(SIX);
        due("plan", x.plan(0, 0, 6, -4), 6);
        due("a plan changes nothing", x.count(4), 0);
        due("a plan can't be undone", x.count(5), 0);
        x.give(2, 0);
        due("behind give", x.plan(0, 0, 6, -4), 5);
        x.take(2);
        due("behind take", x.plan(0, 0, 6, -4), 6);
        x.out(0, 20, 20);
        due("behind out", x.plan(0, 0, 6, -1), 10);
        x.undo();
        due("behind undo", x.plan(0, 0, 6, -1), 12);
        x.adopt(0, 3, 6);
        due("behind adopt", x.plan(0, 0, 6, -4), 3);
        x.lay();
        due("behind lay", x.plan(0, 0, 6, -4), 6);
        due("of another window", x.plan(0, 3, 6, -4), 3);
        due("of fewer changes", x.plan(0, 3, 2, -4), 2);
        due("by another law", x.plan(1, 3, 2, -4), 0);
        // one sat over two stations: 0-5 and 1-6, 30-35 and 31-36, the last one out
        StationPasses y = Told.laid("s0,30,0,9,0;g0,6;g1,6;a0,0,0;a1,0,0;");
        y.out(1, 31, 31);
        plan("the first two are of one sat", y, 0, 0, 6, 48, 0, 2, 2, NONE, 1, 0, NONE);
        plan("in the next window they are not", y, 0, 1, 6, 48, 0, 2, 2, 1, 0, NONE);
    }

    private static void planOfWindowsInTurn() {
        CHECK.says("All that is asked is told of all as it stands then");
        // 0-5 and 6-11 do not go together with a setup of 1, 6-11 and 20-25 do
        StationPasses x = Told.laid("s0,60,0,9,0;s6,60,0,9,0;s20,60,0,9,0;g0,6;a0,0,1;");
        plan("the first two do not go together", x, 0, 0, 6, 48, 0, 2, 2, NONE, 0, 0);
        plan("in the next window they do", x, 0, 1, 6, 48, 0, 2, 2, 0, 0);
        plan("the first window again", x, 0, 0, 6, 48, 0, 2, 2, NONE, 0, 0);
        plan("with another antenna told, all do", laidAnew(x, "s0,60,0,9,0;s6,60,0,9,0;s20,60,0,9,0;g0,6;a0,0,0;"),
            0, 0, 6, 72, 0, 3, 3, 0, 0, 0);
    }

    private static StationPasses laidAnew(StationPasses x, String text) {
        Told.tell(x, text);
        x.lay();
        return x;
    }

    private static void planned() {
        CHECK.says("PLANNED: the way becomes what is.");
        StationPasses x = Told.laid("s0,60,0,9,0;s1,60,1,9,0;g0,6;a0,2,0;a0,0,0;");
        x.give(0, 0);
        due("adopt(0,0,6)", x.adopt(0, 0, 6), 2);
        due("pass(0,5)", x.pass(0, 5), 1);
        due("pass(1,5)", x.pass(1, 5), 0);
        due("adopt(0,0,6) again", x.adopt(0, 0, 6), 0);
        due("adopt(1,0,6)", x.adopt(1, 0, 6), 2);
        due("contacts", x.count(4), 0);
        due("undo", x.undo(), 3);
        due("contacts", x.count(4), 2);
        due("undo", x.undo(), 2);
        due("undo", x.undo(), 1);
        due("pass(0,5)", x.pass(0, 5), 0);
        due("pass(1,5)", x.pass(1, 5), NONE);
    }

    private static void bound() {
        CHECK.says("BOUND of a WINDOW: VOLUME of all PASSES of it that FIT some ANTENNA, together.");
        StationPasses x = Told.laid("s0,60,0,9,0;s1,60,1,9,0;g0,6;a0,2,0;a0,0,0;");
        due("both", x.bound(0), 60);
        x.out(0, 6, 6);
        due("the second fits none", x.bound(0), 24);
        due("from the second", x.bound(1), 0);
        x.out(0, 0, 0);
        due("the first fits the other antenna", x.bound(0), 60);
        x.out(1, 5, 5);
        due("the first fits none", x.bound(0), 36);
        x.out(0, 59, 0);
        x.give(0, 0);
        due("contacts speak against nothing", x.bound(0), 60);
    }

    private static void boundOfNone() {
        CHECK.says("that FIT some ANTENNA");
        due("no antenna", Told.laid("s0,10,0,9,0;g0,1;").bound(0), 0);
        StationPasses x = Told.laid(SIX);
        due("not out", x.bound(0), 12);
        x.out(0, 0, 59);
        due("out", x.bound(0), 0);
    }
}
