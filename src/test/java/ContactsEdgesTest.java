/** The edges that the document's part 2 names, a test for each sentence: contacts, what is out, stores, undoing. */
public final class ContactsEdgesTest {
    private static final int BAD = -1, NO = -2, NONE = -4;

    private static final Check CHECK = new Check();

    public static void main(String[] args) {
        fitsItsStation();
        fitsNotOutInAnySlot();
        togetherMoreThanSetup();
        togetherBesideEachOther();
        togetherFromOneSlot();
        togetherOnOneAntennaAlone();
        satInOneContactASlot();
        satOfAnotherContact();
        noContactsAtFirst();
        noContactsWhenLaid();
        outOneRowEach();
        outFromAboveTo();
        outInOneSlot();
        outDropsItsContacts();
        outLeavesOthers();
        storeEmptyAtFirst();
        storeFillsFirst();
        storeGivesNoMoreThanThereIs();
        storeLosesWhatIsMore();
        storeOfItsSatAlone();
        storeInSlotsOfContactsAlone();
        undoneKinds();
        undoneOut();
        undoneLast6();
        undoneBetweenChanges();
        undoneOfNothing();
        undoneNotBehindLaid();
        whyLowest();
        overFirstSlot();
        CHECK.end();
    }

    private static void due(String call, int got, int want) {
        CHECK.due(call, got, want);
    }

    // ---- what fits, what goes together

    private static void fitsItsStation() {
        CHECK.says("A PASS FITS an ANTENNA, if that is at its STATION, takes its BAND");
        StationPasses x = Told.laid("s0,60,0,9,0;g0,1;g1,1;a0,0,0;a1,0,0;a0,1,0;a1,2,0;");
        due("pass(0,6)", x.pass(0, 6), 0b0001);
        due("pass(1,6)", x.pass(1, 6), 0b1010);
        due("give(0,1), another station", x.give(0, 1), NO);
        due("give(0,2), another band", x.give(0, 2), NO);
        due("give(0,0)", x.give(0, 0), 1);
    }

    private static void fitsNotOutInAnySlot() {
        CHECK.says("and is not OUT in any of its SLOTS");
        StationPasses x = Told.laid("s10,60,0,9,0;g0,6;a0,2,0;");
        int[][] rows = {{0, 9, 1}, {0, 10, 0}, {9, 9, 1}, {10, 10, 0}, {12, 13, 0}, {15, 15, 0}, {16, 16, 1},
            {15, 59, 0}, {16, 59, 1}, {10, 15, 0}, {0, 59, 0}, {9, 16, 0}, {15, 10, 1}, {59, 0, 1}};
        for (int[] row : rows) {
            String out = " when out from " + row[0] + " to " + row[1];
            x.out(0, row[0], row[1]);
            due("pass(0,6)" + out, x.pass(0, 6), row[2]);
            due("why(0,0)" + out, x.why(0, 0), row[2] == 1 ? 0 : 2);
            due("best(0,-2)" + out, x.best(0, -2), row[2]);
            due("bound(0)" + out, x.bound(0), row[2] * 24);
            due("plan(0,0,6,-3)" + out, x.plan(0, 0, 6, -3), row[2]);
        }
    }

    private static void togetherMoreThanSetup() {
        CHECK.says("if the SLOT in which the later one begins is more than SETUP behind the last SLOT of the earlier one");
        for (int setup = 0; setup <= 5; setup++) {
            String sats = "s0,60,0,9,0;s" + (5 + setup) + ",60,0,9,0;s" + (6 + setup) + ",60,0,9,0;";
            StationPasses x = Told.laid(sats + "g0,6;a0,2," + setup + ";");
            String by = " by a setup of " + setup;
            x.give(0, 0);
            due("why not as much as setup behind" + by, x.why(1, 0), 3);
            due("give" + by, x.give(1, 0), NO);
            due("why not one more than that" + by, x.why(2, 0), 0);
            due("give" + by, x.give(2, 0), 2);
            x.take(0);
            due("why not ahead of the later one" + by, x.why(0, 0), 0);
            x.take(2);
            x.give(1, 0);
            due("why not ahead of the earlier one" + by, x.why(0, 0), 3);
        }
    }

    private static void togetherBesideEachOther() {
        CHECK.says("is more than SETUP behind the last SLOT of the earlier one");
        StationPasses x = Told.laid("s0,60,0,9,0;s9,60,0,9,0;s18,60,0,9,0;g0,9;a0,0,0;");
        due("0 to 8", x.give(0, 0), 1);
        due("18 to 26", x.give(2, 0), 2);
        due("9 to 17 between them, with no setup", x.give(1, 0), 3);
        StationPasses y = Told.laid("s0,60,0,9,0;s9,60,0,9,0;s18,60,0,9,0;g0,9;a0,0,1;");
        y.give(0, 0);
        y.give(2, 0);
        due("9 to 17 between them, with a setup of 1", y.give(1, 0), NO);
    }

    private static void togetherFromOneSlot() {
        CHECK.says("Two PASSES that FIT one ANTENNA go together on it");
        StationPasses x = Told.laid("s30,60,0,9,0;s30,60,0,9,0;g0,1;a0,2,0;a0,2,0;");
        x.give(0, 0);
        due("two of one slot alone", x.why(1, 0), 3);
        due("on the other antenna", x.why(1, 1), 0);
        StationPasses y = Told.laid("s30,60,0,9,0;s31,60,0,9,0;g0,9;a0,2,0;");
        y.give(1, 0);
        due("a slot sooner, over almost all of it", y.why(0, 0), 3);
    }

    private static void togetherOnOneAntennaAlone() {
        CHECK.says("those of one ANTENNA go together");
        StationPasses x = Told.laid("s0,60,0,9,0;s1,60,0,9,0;s2,60,0,9,0;g0,6;a0,2,5;a0,2,5;a0,0,5;");
        due("antenna 0", x.give(0, 0), 1);
        due("antenna 1", x.give(1, 1), 2);
        due("antenna 1 again", x.give(2, 1), NO);
        due("antenna 2", x.give(2, 2), 3);
    }

    private static void satInOneContactASlot() {
        CHECK.says("no SAT is in two CONTACTS in one SLOT");
        StationPasses x = Told.laid("s10,60,0,9,0;g0,6;g5,6;g6,6;a0,2,5;a1,2,5;a2,2,5;");
        x.give(0, 0);
        due("its last slot is the other's first", x.why(1, 1), 4);
        due("give", x.give(1, 1), NO);
        due("its last slot is beside the other's first", x.why(2, 2), 0);
        due("give", x.give(2, 2), 2);
        x.take(0);
        due("10 to 15 ahead of 16 to 21", x.why(0, 0), 0);
        due("15 to 20 over 16 to 21", x.why(1, 1), 4);
        StationPasses inside = Told.laid("s0,60,0,9,0;g0,9;g4,1;a0,2,0;a1,2,0;");
        inside.give(0, 0);
        due("one slot inside", inside.why(1, 1), 4);
        inside.take(0);
        inside.give(1, 1);
        due("all around one slot", inside.why(0, 0), 4);
        StationPasses same = Told.laid("s0,60,0,9,0;g0,1;g0,1;a0,2,0;a1,2,0;");
        same.give(0, 0);
        due("the same slot", same.why(1, 1), 4);
    }

    private static void satOfAnotherContact() {
        CHECK.says("no SAT is in two CONTACTS in one SLOT");
        StationPasses x = Told.laid("s0,60,0,9,0;s0,60,0,9,0;g0,6;g0,6;a0,2,0;a1,2,0;");
        x.give(0, 0);
        due("another sat in the same slots", x.give(3, 1), 2);
        due("sat(0,6)", x.sat(0, 6), 1);
        due("sat(1,6)", x.sat(1, 6), 1);
    }

    // ---- at first, when laid

    private static void nothingStands(String when, StationPasses x) {
        due(when + ": contacts", x.count(4), 0);
        due(when + ": volume", x.count(9), 0);
        due(when + ": got", x.count(7), 0);
        for (int p = 0; p < x.count(3); p++) {
            due(when + ": pass(" + p + ",5)", x.pass(p, 5), NONE);
        }
        for (int a = 0; a < x.count(2); a++) {
            due(when + ": antenna(" + a + ",3)", x.antenna(a, 3), NONE);
            due(when + ": antenna(" + a + ",4)", x.antenna(a, 4), NONE);
            due(when + ": antenna(" + a + ",5)", x.antenna(a, 5), 0);
            due(when + ": antenna(" + a + ",6)", x.antenna(a, 6), 0);
        }
        for (int i = 0; i < x.count(0); i++) {
            due(when + ": sat(" + i + ",6)", x.sat(i, 6), 0);
        }
    }

    private static void noContactsAtFirst() {
        CHECK.says("At first and when LAID there are no CONTACTS, no ANTENNA is OUT.");
        nothingStands("at first", new StationPasses());
    }

    private static void noContactsWhenLaid() {
        CHECK.says("At first and when LAID there are no CONTACTS, no ANTENNA is OUT.");
        StationPasses x = Told.told("s0,20,0,30,1;s7,25,1,40,2;s13,18,1,20,1;g0,6;g9,8;a0,2,1;a0,0,0;a1,1,2;");
        x.adopt(0, 0, 6);
        x.adopt(0, 13, 6);
        for (int a = 0; a < 3; a++) {
            x.out(a, 26, 29);
        }
        due("there are contacts", x.count(4) > 5 ? 1 : 0, 1);
        x.lay();
        nothingStands("when the same is laid", x);
    }

    // ---- what is out

    private static void outOneRowEach() {
        CHECK.says("(one such row each; told anew it is in place of that;");
        StationPasses x = Told.laid("s0,60,0,9,0;s20,60,0,9,0;g0,6;a0,2,0;a0,2,0;");
        x.out(0, 0, 5);
        x.out(1, 30, 31);
        due("fits of the first", x.pass(0, 6), 0b10);
        x.out(0, 20, 25);
        due("from", x.antenna(0, 3), 20);
        due("to", x.antenna(0, 4), 25);
        due("the first fits again", x.pass(0, 6), 0b11);
        due("the second does not", x.pass(1, 6), 0b10);
        due("the other antenna has its own, from", x.antenna(1, 3), 30);
        due("to", x.antenna(1, 4), 31);
    }

    private static void outFromAboveTo() {
        CHECK.says("from above to: not any more)");
        StationPasses x = Told.laid("s0,60,0,9,0;g0,6;a0,2,0;");
        int[][] rows = {{1, 0}, {59, 0}, {59, 58}, {3, 2}, {5, 0}};
        for (int[] row : rows) {
            x.out(0, 0, 59);
            due("out: fits", x.pass(0, 6), 0);
            due("out(0," + row[0] + "," + row[1] + ")", x.out(0, row[0], row[1]), 0);
            due("from", x.antenna(0, 3), NONE);
            due("to", x.antenna(0, 4), NONE);
            due("fits", x.pass(0, 6), 1);
        }
        x.give(0, 0);
        due("out(0,3,2) in contact", x.out(0, 3, 2), 0);
        due("contacts stay", x.count(4), 1);
    }

    private static void outInOneSlot() {
        CHECK.says("An ANTENNA is OUT from a SLOT to a SLOT");
        StationPasses x = Told.laid("s0,60,0,9,0;g0,6;a0,2,0;");
        int[] slots = {0, 5, 59};
        for (int t : slots) {
            x.out(0, t, t);
            due("from", x.antenna(0, 3), t);
            due("to", x.antenna(0, 4), t);
            due("fits", x.pass(0, 6), t == 59 ? 1 : 0);
        }
    }

    private static void outDropsItsContacts() {
        CHECK.says("its CONTACTS that do not FIT any more then are none.");
        String text = "s0,60,0,9,0;s10,60,0,9,0;s20,60,0,9,0;g0,6;a0,2,0;";
        int[][] rows = {{0, 0, 1, 0b110}, {5, 5, 1, 0b110}, {6, 9, 0, 0b111}, {5, 10, 2, 0b100}, {15, 20, 2, 0b001},
            {16, 19, 0, 0b111}, {12, 13, 1, 0b101}, {0, 59, 3, 0}, {5, 20, 3, 0}, {26, 59, 0, 0b111}, {25, 59, 1, 0b011}};
        for (int[] row : rows) {
            StationPasses x = Told.laid(text);
            for (int p = 0; p < 3; p++) {
                x.give(p, 0);
            }
            String call = "out(0," + row[0] + "," + row[1] + ")";
            due(call, x.out(0, row[0], row[1]), row[2]);
            due(call + ": contacts", x.count(4), 3 - row[2]);
            for (int p = 0; p < 3; p++) {
                due(call + ": pass(" + p + ",5)", x.pass(p, 5), (row[3] >> p & 1) == 1 ? 0 : NONE);
            }
            x.out(0, 1, 0);
            due(call + ": none come back", x.count(4), 3 - row[2]);
        }
    }

    private static void outLeavesOthers() {
        CHECK.says("its CONTACTS that do not FIT any more then are none.");
        StationPasses x = Told.laid("s0,60,0,9,0;s0,60,0,9,0;g0,6;a0,2,0;a0,2,0;");
        x.give(0, 0);
        x.give(1, 1);
        due("out(1,0,59)", x.out(1, 0, 59), 1);
        due("the other antenna's stays", x.pass(0, 5), 0);
        due("its own does not", x.pass(1, 5), NONE);
    }

    // ---- stores

    private static void stores(StationPasses x, int i, int[][] want) {
        for (int t = 0; t < want.length; t++) {
            for (int what = 0; what < 3; what++) {
                due("store(" + i + "," + t + "," + what + ")", x.store(i, t, what), want[t][what]);
            }
        }
    }

    private static void storeEmptyAtFirst() {
        CHECK.says("STORE of a SAT is empty at first.");
        stores(Told.laid("s0,6,0,9,1;"), 0, new int[][] {{2, 0, 0}, {4, 0, 0}});
        stores(Told.laid("s0,6,0,9,0;"), 0, new int[][] {{0, 0, 0}, {0, 0, 0}});
    }

    private static void storeFillsFirst() {
        CHECK.says("In each SLOT, 0 first: FILLS comes in; then, if the SAT is in CONTACT in it, RATE goes out");
        StationPasses x = Told.laid("s0,60,0,1,9;g0,1;a0,2,0;");
        x.give(0, 0);
        // in slot 0: 18 in, 2 out, 2 stay
        stores(x, 0, new int[][] {{2, 14, 2}, {2, 32, 2}});
        StationPasses y = Told.laid("s0,60,0,1,2;g0,1;a0,2,0;");
        y.give(0, 0);
        // what goes out in time is not lost
        stores(y, 0, new int[][] {{2, 0, 2}, {2, 4, 2}});
    }

    private static void storeGivesNoMoreThanThereIs() {
        CHECK.says("RATE goes out, no more than there is: it is GOT");
        StationPasses nothing = Told.laid("s0,60,0,9,0;g0,9;a0,2,0;");
        nothing.give(0, 0);
        due("of nothing: got", nothing.store(0, 59, 2), 0);
        due("of nothing: in the store", nothing.store(0, 59, 0), 0);
        StationPasses less = Told.laid("s0,60,1,9,1;g0,2;a0,2,0;");
        less.give(0, 0);
        // rates of 3, 2 come in a slot
        stores(less, 0, new int[][] {{0, 0, 2}, {0, 0, 4}, {2, 0, 4}});
        StationPasses asMuch = Told.laid("s0,60,0,9,1;g0,2;a0,2,0;");
        asMuch.give(0, 0);
        stores(asMuch, 0, new int[][] {{0, 0, 2}, {0, 0, 4}, {2, 0, 4}});
        StationPasses more = Told.laid("s0,60,1,9,2;g0,2;a0,2,0;");
        more.give(0, 0);
        // rates of 3, 4 come in a slot
        stores(more, 0, new int[][] {{1, 0, 3}, {2, 0, 6}, {6, 0, 6}});
    }

    private static void storeLosesWhatIsMore() {
        CHECK.says("then what is more than the STORE holds is LOST");
        // 4 a slot into 8: full behind slot 1, and nothing lost yet
        stores(Told.laid("s0,60,0,4,2;"), 0, new int[][] {{4, 0, 0}, {8, 0, 0}, {8, 4, 0}, {8, 8, 0}});
        // into 6: 2 too many in slot 1
        stores(Told.laid("s0,60,0,3,2;"), 0, new int[][] {{4, 0, 0}, {6, 2, 0}, {6, 6, 0}});
        StationPasses x = Told.laid("s2,60,1,3,2;g0,1;a0,2,0;");
        x.give(0, 0);
        // in slot 2: 10, less 3, a half too many
        stores(x, 0, new int[][] {{4, 0, 0}, {6, 2, 0}, {6, 3, 3}, {6, 7, 3}});
    }

    private static void storeOfItsSatAlone() {
        CHECK.says("if the SAT is in CONTACT in it");
        StationPasses x = Told.laid("s0,60,0,9,1;s0,60,0,9,1;g0,1;a0,2,0;");
        x.give(1, 0);
        stores(x, 0, new int[][] {{2, 0, 0}, {4, 0, 0}});
        stores(x, 1, new int[][] {{0, 0, 2}, {2, 0, 2}});
    }

    private static void storeInSlotsOfContactsAlone() {
        CHECK.says("if the SAT is in CONTACT in it");
        StationPasses x = Told.laid("s2,60,0,99,4;g0,2;a0,2,0;");
        x.give(0, 0);
        stores(x, 0, new int[][] {{8, 0, 0}, {16, 0, 0}, {22, 0, 2}, {28, 0, 4}, {36, 0, 4}});
        StationPasses last = Told.laid("s59,60,0,99,1;g0,1;a0,2,0;");
        last.give(0, 0);
        due("got behind 58", last.store(0, 58, 2), 0);
        due("got behind 59", last.store(0, 59, 2), 2);
        due("in the store behind 58", last.store(0, 58, 0), 118);
        due("in the store behind 59", last.store(0, 59, 0), 118);
    }

    // ---- undoing

    private static void undoneKinds() {
        CHECK.says("A change: a CONTACT more, one less, an ANTENNA that is OUT or not, PLANNED.");
        StationPasses x = new StationPasses();
        x.give(0, 1);
        due("a contact more", x.count(5), 1);
        x.take(0);
        due("one less", x.count(5), 2);
        x.out(0, 1, 2);
        due("out", x.count(5), 3);
        x.out(0, 2, 1);
        due("not out", x.count(5), 4);
        x.adopt(0, 0, 6);
        due("planned", x.count(5), 5);
        due("undo of planned", x.undo(), 4);
        due("contacts", x.count(4), 0);
        due("undo of not out", x.undo(), 3);
        due("from", x.antenna(0, 3), 1);
        due("to", x.antenna(0, 4), 2);
        due("undo of out", x.undo(), 2);
        due("from", x.antenna(0, 3), NONE);
        due("undo of one less", x.undo(), 1);
        due("its antenna", x.pass(0, 5), 1);
        due("undo of a contact more", x.undo(), 0);
        due("its antenna", x.pass(0, 5), NONE);
        due("undo of none", x.undo(), NO);
    }

    private static void undoneOut() {
        CHECK.says("CONTACTS, what is OUT are as ahead of it.");
        StationPasses x = Told.laid("s0,60,0,9,0;s10,60,0,9,0;g0,6;a0,2,0;a0,2,0;");
        x.give(0, 0);
        x.give(1, 1);
        x.out(0, 50, 51);
        due("out(0,0,59)", x.out(0, 0, 59), 1);
        due("out(1,0,59)", x.out(1, 0, 59), 1);
        due("undo", x.undo(), 4);
        due("its contact is back", x.pass(1, 5), 1);
        due("the other's is not", x.pass(0, 5), NONE);
        due("it is not out", x.antenna(1, 3), NONE);
        due("the other is", x.antenna(0, 4), 59);
        due("undo", x.undo(), 3);
        due("both are back", x.count(4), 2);
        due("its row of slots, too: from", x.antenna(0, 3), 50);
        due("to", x.antenna(0, 4), 51);
    }

    private static void undoneLast6() {
        CHECK.says("UNDONE is the latest change (the last 6 can be");
        for (int changes = 0; changes <= 14; changes++) {
            StationPasses x = new StationPasses();
            for (int n = 1; n <= changes; n++) {
                x.out(0, n, n);
                due("count(5) behind " + n, x.count(5), Math.min(n, 6));
            }
            for (int n = 1; n <= Math.min(changes, 6); n++) {
                due("undo " + n + " of " + changes, x.undo(), Math.min(changes, 6) - n);
                due("from", x.antenna(0, 3), changes - n == 0 ? NONE : changes - n);
            }
            due("undo of no more", x.undo(), NO);
            due("from", x.antenna(0, 3), changes <= 6 ? NONE : changes - 6);
        }
    }

    private static void undoneBetweenChanges() {
        CHECK.says("UNDONE is the latest change (the last 6 can be");
        StationPasses x = new StationPasses();
        for (int n = 1; n <= 8; n++) {
            x.out(0, n, n);
        }
        for (int left = 5; left >= 2; left--) {
            due("undo", x.undo(), left);
        }
        due("from, as behind the fourth", x.antenna(0, 3), 4);
        for (int n = 21; n <= 25; n++) {
            x.out(0, n, n);
            due("count(5)", x.count(5), Math.min(6, n - 18));
        }
        int[] from = {24, 23, 22, 21, 4, 3};
        for (int n = 0; n < 6; n++) {
            due("undo", x.undo(), 5 - n);
            due("from", x.antenna(0, 3), from[n]);
        }
        due("undo of no more", x.undo(), NO);
        due("from", x.antenna(0, 3), 3);
    }

    private static void undoneOfNothing() {
        CHECK.says("such by which nothing becomes another, too;");
        StationPasses x = new StationPasses();
        x.give(0, 1);
        due("out, not out ahead either", x.out(0, 1, 0), 0);
        due("count(5)", x.count(5), 2);
        due("planned, as it is", x.adopt(0, 0, 0), 0);
        due("count(5)", x.count(5), 3);
        x.out(2, 7, 8);
        due("out as it is", x.out(2, 7, 8), 0);
        due("count(5)", x.count(5), 5);
        due("undo", x.undo(), 4);
        due("out all the same", x.antenna(2, 3), 7);
        due("undo", x.undo(), 3);
        due("undo", x.undo(), 2);
        due("undo", x.undo(), 1);
        due("the contact all the same", x.pass(0, 5), 1);
        due("undo", x.undo(), 0);
        due("no contact", x.pass(0, 5), NONE);
    }

    private static void undoneNotBehindLaid() {
        CHECK.says("behind LAID none can be)");
        StationPasses x = new StationPasses();
        due("at first", x.undo(), NO);
        for (int n = 0; n < 7; n++) {
            x.out(0, 0, 9);
        }
        due("lay of an empty text", x.lay(), 0);
        due("count(5)", x.count(5), 0);
        due("undo", x.undo(), NO);
        due("count(0)", x.count(0), 0);
        Told.tell(x, "s0,60,0,9,0;g0,6;a0,2,0;");
        x.lay();
        x.give(0, 0);
        due("undo of a change behind it", x.undo(), 0);
        due("no more", x.undo(), NO);
        x.give(0, 0);
        Told.tell(x, "x");
        due("lay of a fault", x.lay(), NO);
        due("behind that it can be", x.undo(), 0);
    }

    // ---- promises 12 and 21

    private static void whyLowest() {
        CHECK.says("the lowest of these");
        StationPasses x = Told.laid("s0,60,0,9,0;s1,60,0,9,0;g0,6;g1,6;a0,2,0;a1,2,0;");
        // passes: 0 of sat 0 at 0, 1 of sat 0 at 1, 2 of sat 1 at 0, 3 of sat 1 at 1
        due("nothing", x.why(1, 1), 0);
        x.give(0, 0);
        due("4 alone", x.why(1, 1), 4);
        due("3 alone", x.why(2, 0), 3);
        due("2 and 4", x.why(1, 0), 2);
        x.give(3, 1);
        due("3 and 4, the contact of 4 ahead", x.why(1, 1), 3);
        due("3 and 4, the contact of 3 ahead", x.why(2, 0), 3);
        due("1 and 3", x.why(0, 0), 1);
        due("1 and 2", x.why(0, 1), 1);
        x.out(1, 0, 0);
        due("3 and 4, out ahead of it", x.why(1, 1), 3);
        x.out(1, 1, 1);
        due("2, 3 and 4, out in its first slot", x.why(1, 1), 2);
        x.out(1, 6, 6);
        due("2 and 4, out in its last slot", x.why(1, 1), 2);
    }

    private static void overFirstSlot() {
        CHECK.says("The first SLOT in which a SAT has LOST something. BAD; NONE.");
        due("in slot 0", Told.laid("s0,60,0,8,9;").over(0), 0);
        due("full in slot 0", Told.laid("s0,60,0,9,9;").over(0), 1);
        due("in slot 59", Told.laid("s0,60,0,59,1;").over(0), 59);
        due("full in slot 59", Told.laid("s0,60,0,60,1;").over(0), NONE);
        due("never", Told.laid("s0,60,0,1,0;").over(0), NONE);
        StationPasses x = Told.laid("s1,60,0,9,9;s0,60,0,9,0;g0,1;a0,2,0;");
        x.give(1, 0);
        due("in slot 1, a contact of 1", x.over(0), 1);
        due("over(1)", x.over(1), NONE);
        due("over(2)", x.over(2), BAD);
        due("over(-1)", x.over(-1), BAD);
        StationPasses y = Told.laid("s59,60,0,59,1;g0,1;a0,2,0;");
        y.give(0, 0);
        due("not in slot 59, by a contact", y.over(0), NONE);
    }
}
