/** The edges that the document's part 4 and promises 1 to 5 name, a test for each sentence: letters, items, faults. */
public final class TextEdgesTest {
    private static final int BAD = -1, NO = -2, FULL = -3, NONE = -4;

    private static final String SAT = "s0,6,0,1,0;";
    private static final String STATION = "g0,1;";
    private static final String ANTENNA = "a0,0,0;";

    private static final Check CHECK = new Check();

    public static void main(String[] args) {
        letters();
        lettersOtherThanAscii();
        letters200();
        wrongLetterOfFull();
        wipeOfAnyLength();
        wipedLettersAreNoMore();
        itemsEndWithSemicolon();
        itemsOneBehindTheOther();
        figures();
        figuresWithZero();
        commas();
        numbersOfItems();
        itemLetters();
        stationToldAhead();
        faultOfFirstItem();
        faultOneTooMany();
        faultOfLongText();
        longestText();
        emptyText();
        emptyTextAnswers();
        firstSetting();
        textStays();
        layOfFault();
        faultLaysNothing();
        layAnew();
        newObjectsAreApart();
        CHECK.end();
    }

    private static void due(String call, int got, int want) {
        CHECK.due(call, got, want);
    }

    private static void fault(String text, int want) {
        StationPasses x = Told.told(text);
        due("fault of '" + text + "'", x.fault(), want);
        due("lay of '" + text + "'", x.lay() == NO ? NO : NONE, want == NONE ? NONE : NO);
    }

    private static String times(String item, int n) {
        return item.repeat(n);
    }

    // ---- letters

    private static void letters() {
        CHECK.says("A letter (32 to 126, as in ASCII) comes behind THE TEXT: how long it is. BAD");
        StationPasses x = new StationPasses();
        due("write(31)", x.write(31), BAD);
        due("write(32)", x.write(32), 1);
        due("write(126)", x.write(126), 2);
        due("write(127)", x.write(127), BAD);
        due("count(6)", x.count(6), 2);
        StationPasses y = new StationPasses();
        for (int letter = -130; letter < 300; letter++) {
            boolean good = letter >= 32 && letter <= 126;
            due("write(" + letter + ")", y.write(letter), good ? letter - 31 : BAD);
        }
        due("count(6)", y.count(6), 95);
    }

    private static void lettersOtherThanAscii() {
        CHECK.says("A letter (32 to 126, as in ASCII)");
        StationPasses x = new StationPasses();
        // those that would be good ones, if only their last bits counted
        int[] wrong = {115 + 128, 115 + 256, 115 + 65536, 115 - 65536, 115 | Integer.MIN_VALUE, Integer.MAX_VALUE, 0, 10, -115};
        for (int letter : wrong) {
            due("write(" + letter + ")", x.write(letter), BAD);
        }
        due("count(6)", x.count(6), 0);
        due("fault()", x.fault(), NONE);
    }

    private static void letters200() {
        CHECK.says("THE TEXT is letters (200 at most).");
        StationPasses x = new StationPasses();
        for (int n = 1; n <= 200; n++) {
            due("write, the " + n + "th", x.write('g'), n);
        }
        due("write, the 201st", x.write('g'), FULL);
        due("write, once more", x.write(';'), FULL);
        due("count(6)", x.count(6), 200);
        due("wipe()", x.wipe(), 200);
        due("write, when wiped", x.write('g'), 1);
    }

    private static void wrongLetterOfFull() {
        CHECK.says("Of several the first in this order");
        StationPasses x = Told.told(times("g", 200));
        due("write(31) of a full text", x.write(31), BAD);
        due("write(127) of a full text", x.write(127), BAD);
        due("count(6)", x.count(6), 200);
    }

    private static void wipeOfAnyLength() {
        CHECK.says("THE TEXT is empty: how long it was.");
        StationPasses x = new StationPasses();
        due("wipe of none", x.wipe(), 0);
        due("wipe of none again", x.wipe(), 0);
        x.write('s');
        due("wipe of one", x.wipe(), 1);
        due("count(6)", x.count(6), 0);
        due("wipe of none again", x.wipe(), 0);
    }

    private static void wipedLettersAreNoMore() {
        CHECK.says("THE TEXT is empty: how long it was.");
        StationPasses x = Told.told(SAT + STATION);
        x.wipe();
        due("fault of an empty text", x.fault(), NONE);
        Told.write(x, SAT.substring(0, 10));
        due("fault without the ; that was there ahead", x.fault(), 0);
        x.write(';');
        due("fault", x.fault(), NONE);
        due("lay: no station", x.lay(), 0);
        due("count(1)", x.count(1), 0);
    }

    // ---- items

    private static void itemsEndWithSemicolon() {
        CHECK.says("A TEXT is ITEMS one behind the other, a ; behind each");
        fault(SAT, NONE);
        fault("s0,6,0,1,0", 0);
        fault(SAT + "g0,1", 11);
        fault(SAT + STATION + "a0,0,0", 16);
        fault("s0,6,0,1,0," + SAT, 0);
        fault("s0,6,0,1,0:" + SAT, 0);
        fault("s0,6,0,1,0 ;", 0);
        fault(SAT + ";", 11);
        fault(";", 0);
        fault(";" + SAT, 0);
    }

    private static void itemsOneBehindTheOther() {
        CHECK.says("A TEXT is ITEMS one behind the other");
        fault(SAT + STATION + ANTENNA, NONE);
        fault(STATION + ANTENNA + SAT + STATION + SAT + ANTENNA, NONE);
        fault(SAT + " ", 11);
        fault(" " + SAT, 0);
        fault(SAT + " " + SAT, 11);
        fault(SAT + "g0,1;;" + ANTENNA, 16);
        fault("g0,1g0,1;", 0);
    }

    private static void figures() {
        CHECK.says("numbers have one or two figures");
        String[] heads = {"s", "s0,", "s0,6,", "s0,6,0,", "s0,6,0,1,", "g", "g0,", "g0,1;a", "g0,1;a0,", "g0,1;a0,0,"};
        String[] tails = {",6,0,1,0;", ",0,1,0;", ",1,0;", ",0;", ";", ",1;", ";", ",0,0;", ",0;", ";"};
        String[] twos = {"59", "60", "01", "99", "09", "59", "09", "00", "02", "05"};
        for (int n = 0; n < heads.length; n++) {
            int place = heads[n].lastIndexOf(';') + 1;
            fault(heads[n] + tails[n], place);
            fault(heads[n] + twos[n] + tails[n], NONE);
            fault(heads[n] + "0" + twos[n] + tails[n], place);
            fault(heads[n] + "-0" + tails[n], place);
            fault(heads[n] + "+1" + tails[n], place);
            fault(heads[n] + " 1" + tails[n], place);
            fault(heads[n] + "x" + tails[n], place);
            fault(heads[n] + twos[n], place);
        }
        // letters beside the figures in ASCII
        fault("s/,6,0,1,0;", 0);
        fault("s:,6,0,1,0;", 0);
        fault("s1/,6,0,1,0;", 0);
        fault("s1:,6,0,1,0;", 0);
        for (int n = 0; n <= 9; n++) {
            StationPasses x = Told.laid("s" + n + "," + (10 + n) + ",0," + n + (9 - n) + "," + n + ";");
            due("PHASE of one figure", x.sat(0, 0), n);
            due("PERIOD of two figures", x.sat(0, 1), 10 + n);
            due("what a STORE of two figures holds", x.sat(0, 3), 10 * n + 9 - n);
            due("FILLS of one figure", x.sat(0, 4), n);
        }
    }

    private static void figuresWithZero() {
        CHECK.says("numbers have one or two figures");
        StationPasses x = Told.laid("s05,06,00,07,08;g09,01;a00,02,03;");
        int[] numbers = {5, 6, 0, 7, 8};
        for (int what = 0; what < 5; what++) {
            due("sat(0," + what + ")", x.sat(0, what), numbers[what]);
        }
        due("antenna(0,1)", x.antenna(0, 1), 2);
        due("antenna(0,2)", x.antenna(0, 2), 3);
        fault("s0,05,0,1,0;", 0);
        fault("s0,6,02,1,0;", 0);
        fault("s0,6,0,00,0;", 0);
        fault("g0,00;", 0);
    }

    private static void commas() {
        CHECK.says("sO,P,B,C,G the next SAT");
        fault("s0;6,0,1,0;", 0);
        fault("s0,6;0,1,0;", 0);
        fault("s0,6,0;1,0;", 0);
        fault("s0,6,0,1;0;", 0);
        fault("s0.6,0,1,0;", 0);
        fault("s,0,6,0,1,0;", 0);
        fault("s0,,6,0,1,0;", 0);
        CHECK.says("gL,W the next STATION");
        fault("g0;1;", 0);
        fault("g,0,1;", 0);
        fault("g0,,1;", 0);
        CHECK.says("aJ,K,U the next ANTENNA");
        fault("g0,1;a0;0,0;", 5);
        fault("g0,1;a0,0;0;", 5);
        fault("g0,1;a,0,0,0;", 5);
    }

    private static void numbersOfItems() {
        CHECK.says("sO,P,B,C,G the next SAT");
        fault("s;", 0);
        fault("s0,6,0,1;", 0);
        fault("s0,6,0,1,0,0;", 0);
        CHECK.says("gL,W the next STATION");
        fault("g;", 0);
        fault("g1;", 0);
        fault("g0,1,0;", 0);
        CHECK.says("aJ,K,U the next ANTENNA");
        fault("g0,1;a;", 5);
        fault("g0,1;a0,0;", 5);
        fault("g0,1;a0,0,0,0;", 5);
    }

    private static void itemLetters() {
        CHECK.says("FAULT: the place of the first letter of the first ITEM that is not so");
        for (int letter = 32; letter <= 126; letter++) {
            fault((char) letter + "0,6,0,1,0;", letter == 's' ? NONE : 0);
            fault((char) letter + "0,1;", letter == 'g' ? NONE : 0);
            fault(STATION + (char) letter + "0,0,0;", letter == 'a' ? NONE : 5);
        }
        fault("0,6,0,1,0;", 0);
    }

    private static void stationToldAhead() {
        CHECK.says("at STATION J (told ahead)");
        fault(ANTENNA, 0);
        fault(ANTENNA + STATION, 0);
        fault(STATION + ANTENNA, NONE);
        fault(STATION + "a1,0,0;", 5);
        fault(STATION + "a1,0,0;" + STATION, 5);
        fault(STATION + STATION + "a1,0,0;", NONE);
        fault(STATION + STATION + "a2,0,0;" + STATION, 10);
        fault(STATION + STATION + STATION + "a2,0,0;", NONE);
        fault(STATION + STATION + STATION + "a3,0,0;", 15);
        StationPasses x = new StationPasses();
        Told.write(x, ANTENNA);
        due("stations that are laid are not told", x.fault(), 0);
    }

    // ---- faults

    private static void faultOfFirstItem() {
        CHECK.says("FAULT: the place of the first letter of the first ITEM that is not so");
        fault("x", 0);
        fault(SAT + "x", 11);
        fault(SAT + STATION + "x", 16);
        fault(SAT + STATION + ANTENNA + "x", 23);
        fault("s0,6,0,1,x;" + "g0,x;", 0);
        fault(SAT + "g0,x;" + "x", 11);
        fault(SAT + "g0,0;" + SAT + SAT + SAT + SAT, 11);
        fault(SAT + "s60,6,0,1,0;", 11);
    }

    private static void faultOneTooMany() {
        CHECK.says("(or is one too many)");
        fault(times(SAT, 4), NONE);
        fault(times(SAT, 5), 44);
        fault(times(SAT, 4) + STATION + SAT + "x", 49);
        fault(times(STATION, 3), NONE);
        fault(times(STATION, 4), 15);
        fault(STATION + times(ANTENNA, 4), NONE);
        fault(STATION + times(ANTENNA, 5), 33);
        fault(times(SAT, 4) + times(STATION, 3) + times(ANTENNA, 4), NONE);
        fault(times(SAT, 4) + times(STATION, 3) + times(ANTENNA, 4) + SAT, 87);
        fault(times(SAT, 4) + times(STATION, 3) + times(ANTENNA, 4) + STATION, 87);
        fault(times(SAT, 4) + times(STATION, 3) + times(ANTENNA, 4) + ANTENNA, 87);
    }

    private static final String LONGEST = "s59,60,01,99,09;".repeat(4) + "g59,09;".repeat(3) + "a02,02,05;".repeat(4);

    private static void longestText() {
        CHECK.says("LAID is a TEXT without FAULT");
        StationPasses x = Told.told(LONGEST);
        due("letters", x.count(6), 125);
        due("fault", x.fault(), NONE);
        // 59 and 59 by 60 is 58: slots 0 to 6 of each sat over each station, then 58 and 59, all 24
        due("lay", x.lay(), 24);
        due("the 12th", x.pass(11, 1), 6);
        due("the 13th", x.pass(12, 0), 58);
        due("the last", x.pass(23, 1), 59);
        int[] most = {4, 3, 4, 24};
        for (int what = 0; what < 4; what++) {
            due("count(" + what + ")", x.count(what), most[what]);
        }
    }

    private static void faultOfLongText() {
        CHECK.says("THE TEXT is letters (200 at most).");
        StationPasses x = Told.told(LONGEST + times("g", 75));
        due("letters", x.count(6), 200);
        due("fault of a full text", x.fault(), 125);
        due("lay of a full text", x.lay(), NO);
        fault(times("s", 200), 0);
        fault(times(" ", 200), 0);
        fault("s" + times("0", 199), 0);
        // the end of the text comes ahead of the item's end
        fault(LONGEST.substring(0, 124), 115);
    }

    // ---- laid

    private static void emptyText() {
        CHECK.says("(an empty one, too: no PASSES;");
        StationPasses x = new StationPasses();
        due("fault of an empty text", x.fault(), NONE);
        due("lay of an empty text", x.lay(), 0);
        for (int what = 0; what <= 9; what++) {
            due("count(" + what + ")", x.count(what), 0);
        }
        due("count(10)", x.count(10), BAD);
        due("lay of an empty text again", x.lay(), 0);
    }

    private static void emptyTextAnswers() {
        CHECK.says("BAD: a number is none that is told (SATS, STATIONS, ANTENNAS, PASSES such as there are).");
        StationPasses x = Told.laid("");
        due("sat(0,0)", x.sat(0, 0), BAD);
        due("antenna(0,0)", x.antenna(0, 0), BAD);
        due("seen(0,0,0)", x.seen(0, 0, 0), BAD);
        due("pass(0,0)", x.pass(0, 0), BAD);
        due("rate(0,0)", x.rate(0, 0), BAD);
        due("give(0,0)", x.give(0, 0), BAD);
        due("why(0,0)", x.why(0, 0), BAD);
        due("take(0)", x.take(0), BAD);
        due("out(0,0,0)", x.out(0, 0, 0), BAD);
        due("undo()", x.undo(), NO);
        due("best(0,-1)", x.best(0, -1), BAD);
        due("plan(0,0,6,-1)", x.plan(0, 0, 6, -1), BAD);
        due("adopt(0,0,6)", x.adopt(0, 0, 6), BAD);
        due("bound(0)", x.bound(0), BAD);
        due("store(0,0,0)", x.store(0, 0, 0), BAD);
        due("over(0)", x.over(0), BAD);
        StationPasses sats = Told.laid(SAT);
        due("a sat, no station: seen(0,0,0)", sats.seen(0, 0, 0), BAD);
        due("a sat, no station: pass(0,0)", sats.pass(0, 0), BAD);
        due("a sat, no station: sat(0,5)", sats.sat(0, 5), 0);
        due("a sat, no station: store(0,59,0)", sats.store(0, 59, 0), 0);
        StationPasses stations = Told.laid(STATION);
        due("a station, no sat: seen(0,0,0)", stations.seen(0, 0, 0), BAD);
        due("a station, no sat: count(3)", stations.count(3), 0);
        StationPasses antennas = Told.laid(STATION + ANTENNA);
        due("an antenna, no sat: best(0,-1)", antennas.best(0, -1), 0);
        due("an antenna, no sat: best(0,0)", antennas.best(0, 0), NONE);
        due("an antenna, no sat: out(0,0,59)", antennas.out(0, 0, 59), 0);
        due("an antenna, no sat: undo()", antennas.undo(), 0);
        due("an antenna, no sat: give(0,0)", antennas.give(0, 0), BAD);
        StationPasses passes = Told.laid(SAT + STATION);
        due("a pass, no antenna: give(0,0)", passes.give(0, 0), BAD);
        due("a pass, no antenna: why(0,0)", passes.why(0, 0), BAD);
        due("a pass, no antenna: take(0)", passes.take(0), NO);
        due("a pass, no antenna: pass(0,5)", passes.pass(0, 5), NONE);
        due("a pass, no antenna: pass(0,6)", passes.pass(0, 6), 0);
    }

    private static void firstSetting() {
        CHECK.says("at first s0,20,0,30,1;s7,25,1,40,2;s13,18,1,20,1;g0,6;g9,8;a0,2,1;a0,0,0;a1,1,2;");
        StationPasses x = new StationPasses();
        StationPasses y = Told.laid("s0,20,0,30,1;s7,25,1,40,2;s13,18,1,20,1;g0,6;g9,8;a0,2,1;a0,0,0;a1,1,2;");
        due("THE TEXT is empty", x.count(6), 0);
        int[] counts = {3, 2, 3, 19, 0, 0};
        for (int what = 0; what < counts.length; what++) {
            due("count(" + what + ")", x.count(what), counts[what]);
            due("count(" + what + ") when told", y.count(what), counts[what]);
        }
        for (int what = 0; what <= 6; what++) {
            for (int n = 0; n < 3; n++) {
                due("sat(" + n + "," + what + ")", x.sat(n, what), y.sat(n, what));
                due("antenna(" + n + "," + what + ")", x.antenna(n, what), y.antenna(n, what));
            }
            for (int p = 0; p < 19; p++) {
                due("pass(" + p + "," + what + ")", x.pass(p, what), y.pass(p, what));
            }
        }
        due("sat(1,3)", x.sat(1, 3), 40);
        due("antenna(2,2)", x.antenna(2, 2), 2);
    }

    private static void textStays() {
        CHECK.says("LAID, THE TEXT stays.");
        StationPasses x = Told.told(SAT);
        x.lay();
        due("count(6) when laid", x.count(6), 11);
        due("write behind it", x.write('g'), 12);
        due("fault", x.fault(), 11);
        due("lay", x.lay(), NO);
        due("count(6) when it has a fault", x.count(6), 12);
        Told.write(x, "0,1;");
        due("fault", x.fault(), NONE);
        due("lay", x.lay(), 10);
        due("wipe", x.wipe(), 16);
        due("what is laid stays, the text wiped", x.count(3), 10);
    }

    private static void layOfFault() {
        CHECK.says("LAID: how many PASSES. NO.");
        StationPasses x = new StationPasses();
        x.give(0, 0);
        x.out(2, 3, 4);
        // the first items are good ones, and others than those laid
        Told.write(x, "s1,6,1,9,9;g9,9;a0,0,5;x");
        due("lay", x.lay(), NO);
        due("sat(0,0)", x.sat(0, 0), 0);
        due("sat(0,1)", x.sat(0, 1), 20);
        due("antenna(0,2)", x.antenna(0, 2), 1);
        due("count(0)", x.count(0), 3);
        due("count(3)", x.count(3), 19);
        due("pass(0,5)", x.pass(0, 5), 0);
        due("pass(2,4)", x.pass(2, 4), 60);
        due("antenna(2,3)", x.antenna(2, 3), 3);
        due("count(5)", x.count(5), 2);
        due("undo", x.undo(), 1);
    }

    private static void faultLaysNothing() {
        CHECK.says("FAULT. NONE.");
        StationPasses x = Told.told("s1,6,1,9,9;g9,9;a0,0,5;");
        x.give(0, 0);
        due("fault", x.fault(), NONE);
        due("fault again", x.fault(), NONE);
        due("sat(0,0)", x.sat(0, 0), 0);
        due("seen(0,0,0)", x.seen(0, 0, 0), 1);
        due("count(3)", x.count(3), 19);
        due("count(4)", x.count(4), 1);
        due("count(5)", x.count(5), 1);
    }

    private static void layAnew() {
        CHECK.says("LAID: how many PASSES.");
        StationPasses x = Told.told(SAT + STATION + ANTENNA);
        due("lay", x.lay(), 10);
        due("lay again", x.lay(), 10);
        Told.tell(x, "s0,60,0,1,0;" + STATION);
        due("lay of fewer", x.lay(), 1);
        due("pass(1,0) is no more", x.pass(1, 0), BAD);
        due("antenna(0,0) is no more", x.antenna(0, 0), BAD);
        Told.tell(x, times(SAT, 4) + times(STATION, 3));
        due("lay of too many", x.lay(), 24);
        x.wipe();
        due("lay of none", x.lay(), 0);
    }

    private static void newObjectsAreApart() {
        CHECK.says("As told; THE TEXT is empty.");
        StationPasses x = Told.laid(SAT + STATION + ANTENNA);
        x.give(0, 0);
        StationPasses y = new StationPasses();
        due("count(3) of a new one", y.count(3), 19);
        due("count(4) of a new one", y.count(4), 0);
        due("count(5) of a new one", y.count(5), 0);
        due("count(6) of a new one", y.count(6), 0);
        y.give(3, 0);
        due("count(3) of the other", x.count(3), 10);
        due("pass(0,5) of the other", x.pass(0, 5), 0);
        due("count(6) of the other", x.count(6), 23);
    }
}
