/** What promises 6, 7 and 22 count: none, one, and as many as there can be; and that what was more is forgotten. */
public final class CountsEdgesTest {
    private static final int BAD = -1, NONE = -4;

    /** 24 passes of one slot each, which all go together on one antenna; 2 come in a slot, a store holds 2. */
    private static final String MOST = "s0,10,0,1,1;s2,10,0,1,1;s4,10,0,1,1;s6,10,0,1,1;g0,1;a0,0,0;a0,2,0;a0,2,1;a0,0,5;";

    private static final Check CHECK = new Check();

    public static void main(String[] args) {
        passesOfSat();
        contactsOfSat();
        contactsOfAntenna();
        slotsOfAntenna();
        sats();
        contacts();
        changes();
        letters();
        gotByAll();
        lostByAll();
        volumeOfAll();
        most();
        mostOut();
        mostPlanned();
        fewerBehindMore();
        CHECK.end();
    }

    private static void due(String call, int got, int want) {
        CHECK.due(call, got, want);
    }

    private static StationPasses allGiven() {
        StationPasses x = Told.laid(MOST);
        for (int p = 0; p < 24; p++) {
            due("give(" + p + ",0)", x.give(p, 0), p + 1);
        }
        return x;
    }

    // ---- promises 6 and 7

    private static void passesOfSat() {
        CHECK.says("its PASSES (5)");
        due("no station", Told.laid("s0,10,0,1,1;").sat(0, 5), 0);
        due("one", Told.laid("s0,60,0,1,1;g0,1;").sat(0, 5), 1);
        due("one over each station", Told.laid("s0,60,0,1,1;g0,1;g0,1;g0,1;").sat(0, 5), 3);
        due("cut in two by the first slot", Told.laid("s59,60,0,1,1;g0,2;").sat(0, 5), 2);
        StationPasses x = Told.laid("s0,60,0,1,1;s0,10,0,1,1;s1,30,0,1,1;g0,1;");
        due("of the first sat", x.sat(0, 5), 1);
        due("of the second", x.sat(1, 5), 6);
        due("of the third", x.sat(2, 5), 2);
        due("all 24 of one sat", Told.laid("s0,6,0,1,1;g0,1;g0,1;g0,1;").sat(0, 5), 24);
    }

    private static void contactsOfSat() {
        CHECK.says("its CONTACTS (6)");
        StationPasses x = Told.laid("s0,10,0,9,0;s5,10,0,9,0;g0,1;a0,0,0;");
        due("none", x.sat(0, 6), 0);
        x.give(0, 0);
        due("the first pass", x.sat(0, 6), 1);
        due("of the other sat", x.sat(1, 6), 0);
        x.give(11, 0);
        due("the last pass", x.sat(1, 6), 1);
        due("of the first sat", x.sat(0, 6), 1);
        x.take(0);
        due("none again", x.sat(0, 6), 0);
    }

    private static void contactsOfAntenna() {
        CHECK.says("its CONTACTS (5)");
        StationPasses x = Told.laid("s0,10,0,9,0;g0,1;a0,0,0;a0,0,0;");
        due("none", x.antenna(0, 5), 0);
        x.give(0, 0);
        x.give(5, 1);
        due("the first pass", x.antenna(0, 5), 1);
        due("the last pass", x.antenna(1, 5), 1);
        x.give(1, 1);
        due("two", x.antenna(1, 5), 2);
        x.out(1, 50, 59);
        due("one is out", x.antenna(1, 5), 1);
        x.undo();
        due("it is back", x.antenna(1, 5), 2);
    }

    private static void slotsOfAntenna() {
        CHECK.says("SLOTS in which it is in CONTACT (6)");
        StationPasses all = Told.laid("s0,6,0,9,0;g0,6;a0,0,0;");
        due("none", all.antenna(0, 6), 0);
        all.give(0, 0);
        due("all", all.antenna(0, 6), 60);
        StationPasses one = Told.laid("s59,60,0,9,0;g0,1;a0,0,0;");
        one.give(0, 0);
        due("one", one.antenna(0, 6), 1);
        StationPasses beside = Told.laid("s0,60,0,9,0;s3,60,0,9,0;s9,60,0,9,0;g0,3;a0,0,0;a0,0,0;");
        beside.give(0, 0);
        beside.give(1, 0);
        due("two side by side", beside.antenna(0, 6), 6);
        beside.give(2, 1);
        due("the other antenna's are not its", beside.antenna(0, 6), 6);
        due("the other antenna's", beside.antenna(1, 6), 3);
    }

    // ---- promise 22

    private static void sats() {
        CHECK.says("How many: 0 SATS, 1 STATIONS, 2 ANTENNAS, 3 PASSES");
        for (int n = 0; n <= 4; n++) {
            StationPasses x = Told.laid("g0,1;" + "s0,60,0,1,0;".repeat(n) + "a0,0,0;".repeat(4 - n));
            due("count(0)", x.count(0), n);
            due("count(2)", x.count(2), 4 - n);
            due("count(3)", x.count(3), n);
        }
        for (int n = 0; n <= 3; n++) {
            due("count(1)", Told.laid("g0,1;".repeat(n)).count(1), n);
        }
    }

    private static void contacts() {
        CHECK.says("4 CONTACTS");
        StationPasses x = allGiven();
        due("count(4)", x.count(4), 24);
        x.take(23);
        due("count(4)", x.count(4), 23);
        x.undo();
        due("count(4)", x.count(4), 24);
    }

    private static void changes() {
        CHECK.says("5 changes that can be UNDONE");
        StationPasses x = new StationPasses();
        due("count(5)", x.count(5), 0);
        for (int n = 1; n <= 8; n++) {
            x.out(0, 0, 0);
            due("count(5)", x.count(5), Math.min(n, 6));
        }
        for (int n = 5; n >= 0; n--) {
            x.undo();
            due("count(5)", x.count(5), n);
        }
    }

    private static void letters() {
        CHECK.says("6 letters of THE TEXT");
        StationPasses x = new StationPasses();
        due("count(6)", x.count(6), 0);
        for (int n = 1; n <= 202; n++) {
            x.write(' ');
            due("count(6)", x.count(6), Math.min(n, 200));
        }
    }

    private static void gotByAll() {
        CHECK.says("7 GOT by all behind SLOT 59");
        StationPasses x = Told.laid("s0,60,0,9,1;s59,60,0,9,2;g0,1;a0,0,0;");
        due("nothing", x.count(7), 0);
        x.give(0, 0);
        due("in slot 0", x.count(7), 2);
        x.give(1, 0);
        due("in slots 0 and 59", x.count(7), 4);
        x.take(0);
        due("in slot 59", x.count(7), 2);
    }

    private static void lostByAll() {
        CHECK.says("8 LOST by all");
        due("the store is full and no more", Told.laid("s0,60,0,60,1;").count(8), 0);
        due("in slot 59", Told.laid("s0,60,0,59,1;").count(8), 2);
        due("of two", Told.laid("s0,60,0,59,1;s0,60,0,58,1;").count(8), 6);
        due("the most of four", Told.laid("s0,60,0,1,9;".repeat(4)).count(8), 4 * 1078);
    }

    private static void volumeOfAll() {
        CHECK.says("9 VOLUME of all CONTACTS");
        StationPasses x = Told.laid("s0,60,0,9,0;s59,60,1,9,0;g0,1;a0,2,0;");
        due("none", x.count(9), 0);
        x.give(0, 0);
        due("the first", x.count(9), 2);
        x.give(1, 0);
        due("both", x.count(9), 5);
        x.take(0);
        due("the last", x.count(9), 3);
        StationPasses all = Told.laid("s0,6,1,9,0;g0,9;a0,1,0;");
        all.give(0, 0);
        due("all slots", all.count(9), 2790);
    }

    // ---- as much as there can be

    private static void most() {
        CHECK.says("24 of them at most");
        StationPasses x = allGiven();
        // of 120 that come in to each, 12 go down, 2 are there at the end
        int[] counts = {4, 1, 4, 24, 24, 6, MOST.length(), 4 * 12, 4 * 106, 48};
        for (int what = 0; what < counts.length; what++) {
            due("count(" + what + ")", x.count(what), counts[what]);
        }
        for (int i = 0; i < 4; i++) {
            due("sat(" + i + ",5)", x.sat(i, 5), 6);
            due("sat(" + i + ",6)", x.sat(i, 6), 6);
            due("store(" + i + ",59,0)", x.store(i, 59, 0), 2);
            due("store(" + i + ",59,1)", x.store(i, 59, 1), 106);
            due("store(" + i + ",59,2)", x.store(i, 59, 2), 12);
        }
        due("over(0)", x.over(0), 2);
        due("over(3)", x.over(3), 1);
        due("antenna(0,5)", x.antenna(0, 5), 24);
        due("antenna(0,6)", x.antenna(0, 6), 24);
        due("antenna(3,5)", x.antenna(3, 5), 0);
        due("pass(23,5)", x.pass(23, 5), 0);
        due("pass(23,6)", x.pass(23, 6), 15);
        due("why(23,3)", x.why(23, 3), 1);
    }

    private static void mostOut() {
        CHECK.says("how many CONTACTS are none by it");
        StationPasses x = allGiven();
        due("out(3,0,59): of another antenna", x.out(3, 0, 59), 0);
        due("out(0,56,59): the last", x.out(0, 56, 59), 1);
        due("out(0,0,59): all that are left", x.out(0, 0, 59), 23);
        due("count(4)", x.count(4), 0);
        due("undo", x.undo(), 5);
        due("count(4)", x.count(4), 23);
        due("undo", x.undo(), 4);
        due("count(4)", x.count(4), 24);
    }

    private static void mostPlanned() {
        CHECK.says("PLAN by a LAW, with c CHANGES at most (0 to 6)");
        StationPasses x = allGiven();
        // a store holds but what comes in in one slot, so all that goes down would be lost
        due("by MOST", x.plan(0, 18, 6, -4), 0);
        due("by LEAST", x.plan(1, 18, 6, -2), 4 * 106);
        due("by LEAST: all are of use", x.plan(1, 18, 6, -3), 6);
        StationPasses y = Told.laid(MOST);
        for (int f = 0; f < 24; f += 6) {
            due("adopt(1," + f + ",6)", y.adopt(1, f, 6), 6);
        }
        due("contacts", y.count(4), 24);
        due("lost", y.count(8), 4 * 106);
    }

    private static void fewerBehindMore() {
        CHECK.says("All that is asked is told of all as it stands then");
        StationPasses x = allGiven();
        due("best of 24", x.best(0, -1), 48);
        due("plan of 24", x.plan(0, 0, 6, -1), 12);
        Told.tell(x, "s0,30,0,9,0;g0,1;a0,0,0;");
        x.lay();
        due("best of 2", x.best(0, -1), 4);
        due("best of 2", x.best(0, -2), 2);
        due("best of 2", x.best(0, 2), NONE);
        due("plan of 2", x.plan(0, 0, 6, -1), 4);
        due("plan of 2", x.plan(0, 0, 6, 2), BAD);
        due("bound of 2", x.bound(0), 4);
        due("sat(0,5)", x.sat(0, 5), 2);
        due("sat(0,6)", x.sat(0, 6), 0);
        due("sat(3,5)", x.sat(3, 5), BAD);
        due("count(9)", x.count(9), 0);
        x.give(1, 0);
        due("count(9)", x.count(9), 2);
        due("out", x.out(0, 0, 59), 1);
        x.wipe();
        x.lay();
        due("count(3) of none", x.count(3), 0);
        due("best of none", x.best(0, -1), BAD);
        Told.tell(x, "g0,1;a0,0,0;");
        x.lay();
        due("best without passes", x.best(0, -1), 0);
        due("best without passes", x.best(0, -2), 0);
    }
}
