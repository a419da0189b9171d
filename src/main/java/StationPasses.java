import java.util.Arrays;

/**
 * Passes of satellites over ground stations: what is seen when, contacts of antennas, what is best,
 * and what the stores on board lose. The shared document DOC.md says what each call answers.
 */
public final class StationPasses {
    public static final int BAD = -1, NO = -2, FULL = -3, NONE = -4;

    private static final int SLOTS = 60;
    private static final int MOST_LETTERS = 200;
    private static final int MOST_SATS = 4;
    private static final int MOST_STATIONS = 3;
    private static final int MOST_ANTENNAS = 4;
    private static final int MOST_PASSES = 24;
    private static final int MOST_UNDONE = 6;
    private static final int WINDOW = 6;
    private static final int MOST_CHANGES = 6;
    private static final int BY_MOST = 0, BY_LEAST = 1;

    /** A rank above all that there can be, with room to add to it. */
    private static final int HOPELESS = 1 << 30;

    /** A pass without an antenna: one below antenna 0, because "none" is the first in the order of ways. */
    private static final int FREE = -1;

    private static final int PHASE = 0, PERIOD = 1, BAND = 2, HOLDS = 3, FILLS = 4;
    private static final int[] SAT_LOWS = {0, 6, 0, 1, 0};
    private static final int[] SAT_HIGHS = {59, 60, 1, 99, 9};

    private static final int LAG = 0, WIDTH = 1;
    private static final int[] STATION_LOWS = {0, 1};
    private static final int[] STATION_HIGHS = {59, 9};

    private static final int PLACE = 0, KIND = 1, SETUP = 2;
    private static final int BOTH_BANDS = 2;
    private static final int[] ANTENNA_LOWS = {0, 0, 0};
    private static final int[] ANTENNA_HIGHS = {2, 2, 5};

    private static final String FIRST_TEXT =
        "s0,20,0,30,1;s7,25,1,40,2;s13,18,1,20,1;g0,6;g9,8;a0,2,1;a0,0,0;a1,1,2;";

    private final Letters text = new Letters();
    private final Network net = new Network();
    private final History history = new History();
    private final Stores stores = new Stores();
    private final Chain chain = new Chain();
    private final Planner planner = new Planner();

    /** What a text is read into; it becomes what is laid only if it has no fault. */
    private Setting draft = new Setting();

    public StationPasses() {
        for (int i = 0; i < FIRST_TEXT.length(); i++) {
            text.append(FIRST_TEXT.charAt(i));
        }
        layText();
        text.clear();
    }

    // ---- told

    public int write(int letter) {
        if (letter < 32 || letter > 126) {
            return BAD;
        }
        if (text.length >= MOST_LETTERS) {
            return FULL;
        }
        text.append((char) letter);
        return text.length;
    }

    public int wipe() {
        int length = text.length;
        text.clear();
        return length;
    }

    public int fault() {
        return draft.readAll(text);
    }

    public int lay() {
        return layText();
    }

    // ---- what is seen

    public int sat(int i, int what) {
        if (!net.setting.sats.has(i) || what < 0 || what > 6) {
            return BAD;
        }
        switch (what) {
            case 5: return net.passesOfSat(i);
            case 6: return net.contactsOfSat(i);
            default: return net.setting.sats.number(i, what);
        }
    }

    public int antenna(int a, int what) {
        if (!net.setting.antennas.has(a) || what < 0 || what > 6) {
            return BAD;
        }
        switch (what) {
            case 3: return net.now.isOut(a) ? net.now.outFrom[a] : NONE;
            case 4: return net.now.isOut(a) ? net.now.outTo[a] : NONE;
            case 5: return net.contactsOfAntenna(a);
            case 6: return net.busySlotsOfAntenna(a);
            default: return net.setting.antennas.number(a, what);
        }
    }

    public int seen(int i, int j, int t) {
        if (!net.setting.sats.has(i) || !net.setting.stations.has(j) || !isSlot(t)) {
            return BAD;
        }
        return net.setting.sees(i, j, t) ? 1 : 0;
    }

    public int pass(int p, int what) {
        if (!net.passes.has(p)) {
            return BAD;
        }
        switch (what) {
            case 0: return net.passes.first[p];
            case 1: return net.passes.last[p];
            case 2: return net.passes.satOf[p];
            case 3: return net.passes.stationOf[p];
            case 4: return net.passes.volume[p];
            case 5: return antennaOrNone(net.now.antennaOf[p]);
            case 6: return net.fittingAntennas(p);
            default: return BAD;
        }
    }

    public int rate(int p, int t) {
        if (!net.passes.has(p) || !isSlot(t)) {
            return BAD;
        }
        return net.passes.covers(p, t) ? net.passes.rateIn(p, t) : NONE;
    }

    // ---- contacts

    public int give(int p, int a) {
        if (!net.passes.has(p) || !net.setting.antennas.has(a)) {
            return BAD;
        }
        if (net.whyNot(p, a) != 0) {
            return NO;
        }
        prepareChange();
        net.now.antennaOf[p] = a;
        return Integer.bitCount(net.contactBits());
    }

    public int why(int p, int a) {
        if (!net.passes.has(p) || !net.setting.antennas.has(a)) {
            return BAD;
        }
        return net.whyNot(p, a);
    }

    public int take(int p) {
        if (!net.passes.has(p)) {
            return BAD;
        }
        int had = net.now.antennaOf[p];
        if (had == FREE) {
            return NO;
        }
        prepareChange();
        net.now.antennaOf[p] = FREE;
        return had;
    }

    public int out(int a, int from, int to) {
        if (!net.setting.antennas.has(a) || !isSlot(from) || !isSlot(to)) {
            return BAD;
        }
        prepareChange();
        net.now.outFrom[a] = from;
        net.now.outTo[a] = to;
        return net.dropContactsThatDoNotFit(a);
    }

    public int undo() {
        if (history.kept == 0) {
            return NO;
        }
        planner.forget();
        history.bringBack(net.now);
        return history.kept;
    }

    // ---- what is best

    public int best(int a, int k) {
        if (!net.setting.antennas.has(a) || k < -2) {
            return BAD;
        }
        chain.find(net, a);
        switch (k) {
            case -1: return chain.volume[0];
            case -2: return chain.length[0];
            default: return chain.member(k);
        }
    }

    public int plan(int law, int f, int c, int k) {
        if (isBadPlan(law, f, c) || k < -4 || k >= net.windowSize(f)) {
            return BAD;
        }
        planner.find(net, stores, law, f, c);
        switch (k) {
            case -1: return net.volumeOf(planner.bestMask << f);
            case -2: return stores.lostByAll(net, planner.contactBits(planner.bestMask));
            case -3: return Integer.bitCount(planner.bestMask);
            case -4: return planner.bestChanges;
            default: return antennaOrNone(planner.bestWay[k]);
        }
    }

    public int adopt(int law, int f, int c) {
        if (isBadPlan(law, f, c)) {
            return BAD;
        }
        planner.find(net, stores, law, f, c);
        prepareChange();
        System.arraycopy(planner.bestWay, 0, net.now.antennaOf, f, net.windowSize(f));
        return planner.bestChanges;
    }

    public int bound(int f) {
        if (!net.passes.has(f)) {
            return BAD;
        }
        int volume = 0;
        for (int p = f; p < f + net.windowSize(f); p++) {
            if (net.fittingAntennas(p) != 0) {
                volume += net.passes.volume[p];
            }
        }
        return volume;
    }

    // ---- stores

    public int store(int i, int t, int what) {
        if (!net.setting.sats.has(i) || !isSlot(t)) {
            return BAD;
        }
        stores.follow(net, i, net.contactBits(), t);
        switch (what) {
            case 0: return stores.content;
            case 1: return stores.lost;
            case 2: return stores.got;
            default: return BAD;
        }
    }

    public int over(int i) {
        if (!net.setting.sats.has(i)) {
            return BAD;
        }
        stores.follow(net, i, net.contactBits(), SLOTS - 1);
        return stores.firstLoss;
    }

    public int count(int what) {
        switch (what) {
            case 0: return net.setting.sats.told;
            case 1: return net.setting.stations.told;
            case 2: return net.setting.antennas.told;
            case 3: return net.passes.known;
            case 4: return Integer.bitCount(net.contactBits());
            case 5: return history.kept;
            case 6: return text.length;
            case 7: return stores.gotByAll(net, net.contactBits());
            case 8: return stores.lostByAll(net, net.contactBits());
            case 9: return net.volumeOf(net.contactBits());
            default: return BAD;
        }
    }

    // ---- what several calls share

    private int layText() {
        if (draft.readAll(text) != NONE) {
            return NO;
        }
        Setting earlier = net.setting;
        net.layOut(draft);
        draft = earlier;
        history.clear();
        planner.forget();
        return net.passes.known;
    }

    private void prepareChange() {
        history.keep(net.now);
        planner.forget();
    }

    private boolean isBadPlan(int law, int f, int c) {
        return law < BY_MOST || law > BY_LEAST || !net.passes.has(f) || c < 0 || c > MOST_CHANGES;
    }

    private static boolean isSlot(int t) {
        return t >= 0 && t < SLOTS;
    }

    private static int antennaOrNone(int a) {
        return a == FREE ? NONE : a;
    }

    /** THE TEXT. */
    private static final class Letters {
        private final char[] row = new char[MOST_LETTERS];
        int length;

        void append(char letter) {
            if (length < row.length) {
                row[length] = letter;
                length++;
            }
        }

        void clear() {
            length = 0;
        }

        /** A letter, or 0 behind the end, which no text can hold: so reading needs no test of its own there. */
        char letterAt(int place) {
            return place >= 0 && place < length ? row[place] : 0;
        }

        /** How many figures a number at this place has, 2 at most. */
        int figuresAt(int place) {
            if (!isFigure(letterAt(place))) {
                return 0;
            }
            return isFigure(letterAt(place + 1)) ? 2 : 1;
        }

        int numberAt(int place, int figures) {
            int number = 0;
            for (int i = place; i < place + figures; i++) {
                number = 10 * number + letterAt(i) - '0';
            }
            return number;
        }

        private static boolean isFigure(char letter) {
            return letter >= '0' && letter <= '9';
        }
    }

    /** The items of one letter: rows of numbers, each number within its limits. */
    private static final class Items {
        private final int[] lows;
        private final int[] highs;
        private final int[][] numbers;
        int told;

        Items(int most, int[] lows, int[] highs) {
            this.lows = lows;
            this.highs = highs;
            this.numbers = new int[most][lows.length];
        }

        boolean has(int i) {
            return i >= 0 && i < told;
        }

        int number(int i, int what) {
            return numbers[i][what];
        }

        boolean isFull() {
            return told >= numbers.length;
        }

        boolean allows(int what, int number) {
            return number >= lows[what] && number <= highs[what];
        }
    }

    /** SATS, STATIONS and ANTENNAS as a text tells them. */
    private static final class Setting {
        final Items sats = new Items(MOST_SATS, SAT_LOWS, SAT_HIGHS);
        final Items stations = new Items(MOST_STATIONS, STATION_LOWS, STATION_HIGHS);
        final Items antennas = new Items(MOST_ANTENNAS, ANTENNA_LOWS, ANTENNA_HIGHS);

        /** The place of the first item that is not as it must be, or NONE. */
        int readAll(Letters text) {
            sats.told = 0;
            stations.told = 0;
            antennas.told = 0;
            int place = 0;
            while (place < text.length) {
                int behind = readItem(text, place);
                if (behind <= place) {
                    return place;
                }
                place = behind;
            }
            return NONE;
        }

        /** The place behind the item that begins here, or NONE if it is not as it must be. */
        private int readItem(Letters text, int place) {
            char letter = text.letterAt(place);
            Items items = itemsOf(letter);
            if (items == null || items.isFull()) {
                return NONE;
            }
            int[] row = items.numbers[items.told];
            int behind = readNumbers(text, place + 1, items, row);
            if (behind == NONE || letter == 'a' && !stations.has(row[PLACE])) {
                return NONE;
            }
            items.told++;
            return behind;
        }

        private Items itemsOf(char letter) {
            if (letter == 's') {
                return sats;
            }
            if (letter == 'g') {
                return stations;
            }
            return letter == 'a' ? antennas : null;
        }

        private static int readNumbers(Letters text, int place, Items items, int[] row) {
            int at = place;
            for (int n = 0; n < row.length; n++) {
                int figures = text.figuresAt(at);
                row[n] = text.numberAt(at, figures);
                at += figures;
                char sign = n < row.length - 1 ? ',' : ';';
                if (figures == 0 || !items.allows(n, row[n]) || text.letterAt(at) != sign) {
                    return NONE;
                }
                at++;
            }
            return at;
        }

        boolean sees(int i, int j, int t) {
            int period = sats.number(i, PERIOD);
            int since = t - sats.number(i, PHASE) - stations.number(j, LAG);
            return period > 0 && Math.floorMod(since, period) < stations.number(j, WIDTH);
        }

        boolean takes(int a, int i) {
            int kind = antennas.number(a, KIND);
            return kind == BOTH_BANDS || kind == sats.number(i, BAND);
        }
    }

    /** The PASSES in their order; volumes and rates in halves. */
    private static final class Passes {
        final int[] first = new int[MOST_PASSES];
        final int[] last = new int[MOST_PASSES];
        final int[] satOf = new int[MOST_PASSES];
        final int[] stationOf = new int[MOST_PASSES];
        final int[] volume = new int[MOST_PASSES];
        /** What a rate of 1 is for the sat of a pass, in halves. */
        private final int[] step = new int[MOST_PASSES];
        int known;

        void find(Setting setting) {
            known = 0;
            for (int t = 0; t < SLOTS; t++) {
                for (int i = 0; i < setting.sats.told; i++) {
                    for (int j = 0; j < setting.stations.told; j++) {
                        if (setting.sees(i, j, t) && (t == 0 || !setting.sees(i, j, t - 1))) {
                            append(setting, i, j, t);
                        }
                    }
                }
            }
        }

        private void append(Setting setting, int i, int j, int t) {
            if (known >= MOST_PASSES) {
                return;
            }
            int p = known;
            first[p] = t;
            last[p] = t;
            while (last[p] + 1 < SLOTS && setting.sees(i, j, last[p] + 1)) {
                last[p]++;
            }
            satOf[p] = i;
            stationOf[p] = j;
            step[p] = setting.sats.number(i, BAND) == 0 ? 2 : 3;
            volume[p] = 0;
            for (int slot = first[p]; slot <= last[p]; slot++) {
                volume[p] += rateIn(p, slot);
            }
            known++;
        }

        boolean has(int p) {
            return p >= 0 && p < known;
        }

        boolean covers(int p, int t) {
            return t >= first[p] && t <= last[p];
        }

        int rateIn(int p, int t) {
            return step[p] * (1 + Math.min(t - first[p], last[p] - t));
        }
    }

    /** What a change can change: the contacts, and which antennas are out. */
    private static final class State {
        final int[] antennaOf = new int[MOST_PASSES];
        final int[] outFrom = new int[MOST_ANTENNAS];
        final int[] outTo = new int[MOST_ANTENNAS];

        void clear() {
            Arrays.fill(antennaOf, FREE);
            Arrays.fill(outFrom, 1);
            Arrays.fill(outTo, 0);
        }

        void copyFrom(State other) {
            System.arraycopy(other.antennaOf, 0, antennaOf, 0, antennaOf.length);
            System.arraycopy(other.outFrom, 0, outFrom, 0, outFrom.length);
            System.arraycopy(other.outTo, 0, outTo, 0, outTo.length);
        }

        boolean isOut(int a) {
            return outFrom[a] <= outTo[a];
        }
    }

    /** States ahead of the latest changes, in a ring. */
    private static final class History {
        private final State[] states = new State[MOST_UNDONE];
        private int next;
        int kept;

        History() {
            for (int i = 0; i < states.length; i++) {
                states[i] = new State();
            }
        }

        void clear() {
            kept = 0;
        }

        void keep(State now) {
            states[next].copyFrom(now);
            next = (next + 1) % MOST_UNDONE;
            kept = Math.min(kept + 1, MOST_UNDONE);
        }

        void bringBack(State now) {
            next = (next + MOST_UNDONE - 1) % MOST_UNDONE;
            kept--;
            now.copyFrom(states[next]);
        }
    }

    /** What is laid, its passes, and the state as it stands. Sets of passes are told as bits. */
    private static final class Network {
        Setting setting = new Setting();
        final Passes passes = new Passes();
        final State now = new State();

        void layOut(Setting told) {
            setting = told;
            passes.find(told);
            now.clear();
        }

        int windowSize(int f) {
            return Math.min(WINDOW, passes.known - f);
        }

        int contactBits() {
            int bits = 0;
            for (int p = 0; p < passes.known; p++) {
                if (now.antennaOf[p] != FREE) {
                    bits |= 1 << p;
                }
            }
            return bits;
        }

        int volumeOf(int bits) {
            int volume = 0;
            for (int p = 0; p < passes.known; p++) {
                if ((bits >> p & 1) != 0) {
                    volume += passes.volume[p];
                }
            }
            return volume;
        }

        int passesOfSat(int i) {
            int found = 0;
            for (int p = 0; p < passes.known; p++) {
                found += passes.satOf[p] == i ? 1 : 0;
            }
            return found;
        }

        int contactsOfSat(int i) {
            int found = 0;
            for (int p = 0; p < passes.known; p++) {
                found += passes.satOf[p] == i && now.antennaOf[p] != FREE ? 1 : 0;
            }
            return found;
        }

        int contactsOfAntenna(int a) {
            int found = 0;
            for (int p = 0; p < passes.known; p++) {
                found += now.antennaOf[p] == a ? 1 : 0;
            }
            return found;
        }

        /** Contacts of one antenna never share a slot, so their lengths can be added. */
        int busySlotsOfAntenna(int a) {
            int slots = 0;
            for (int p = 0; p < passes.known; p++) {
                slots += now.antennaOf[p] == a ? passes.last[p] - passes.first[p] + 1 : 0;
            }
            return slots;
        }

        boolean fits(int p, int a) {
            if (setting.antennas.number(a, PLACE) != passes.stationOf[p] || !setting.takes(a, passes.satOf[p])) {
                return false;
            }
            return !now.isOut(a) || now.outTo[a] < passes.first[p] || now.outFrom[a] > passes.last[p];
        }

        int fittingAntennas(int p) {
            int bits = 0;
            for (int a = 0; a < setting.antennas.told; a++) {
                if (fits(p, a)) {
                    bits |= 1 << a;
                }
            }
            return bits;
        }

        boolean goTogether(int p, int q, int a) {
            int earlier = Math.min(p, q);
            int later = Math.max(p, q);
            return passes.first[later] - passes.last[earlier] > setting.antennas.number(a, SETUP);
        }

        /** What speaks against pass p on antenna a beside pass q on antenna b: 3 or 4 as in "why", or 0. */
        int clash(int p, int a, int q, int b) {
            if (a == b && !goTogether(p, q, a)) {
                return 3;
            }
            return shareSatAndSlot(p, q) ? 4 : 0;
        }

        boolean shareSatAndSlot(int p, int q) {
            return passes.satOf[p] == passes.satOf[q] && passes.first[p] <= passes.last[q]
                && passes.first[q] <= passes.last[p];
        }

        int whyNot(int p, int a) {
            if (now.antennaOf[p] != FREE) {
                return 1;
            }
            return fits(p, a) ? clashWith(contactBits(), p, a) : 2;
        }

        /** The lowest clash with these contacts, or 0. */
        int clashWith(int contacts, int p, int a) {
            int lowest = 0;
            for (int q = 0; q < passes.known; q++) {
                int against = (contacts >> q & 1) != 0 ? clash(p, a, q, now.antennaOf[q]) : 0;
                if (against != 0 && (lowest == 0 || against < lowest)) {
                    lowest = against;
                }
            }
            return lowest;
        }

        int dropContactsThatDoNotFit(int a) {
            int dropped = 0;
            for (int p = 0; p < passes.known; p++) {
                if (now.antennaOf[p] == a && !fits(p, a)) {
                    now.antennaOf[p] = FREE;
                    dropped++;
                }
            }
            return dropped;
        }
    }

    /** The store of one sat, followed slot by slot; all in halves. */
    private static final class Stores {
        private final int[] flow = new int[SLOTS];
        int content;
        int lost;
        int got;
        int firstLoss;

        void follow(Network net, int i, int contacts, int toSlot) {
            gatherFlow(net.passes, i, contacts);
            int holds = 2 * net.setting.sats.number(i, HOLDS);
            int fills = 2 * net.setting.sats.number(i, FILLS);
            content = 0;
            lost = 0;
            got = 0;
            firstLoss = NONE;
            for (int t = 0; t <= toSlot; t++) {
                content += fills;
                int down = Math.min(flow[t], content);
                content -= down;
                got += down;
                if (content > holds) {
                    lost += content - holds;
                    content = holds;
                    firstLoss = firstLoss == NONE ? t : firstLoss;
                }
            }
        }

        /** What could go down in each slot. */
        private void gatherFlow(Passes passes, int i, int contacts) {
            Arrays.fill(flow, 0);
            for (int p = 0; p < passes.known; p++) {
                if (passes.satOf[p] == i && (contacts >> p & 1) != 0) {
                    for (int t = passes.first[p]; t <= passes.last[p]; t++) {
                        flow[t] += passes.rateIn(p, t);
                    }
                }
            }
        }

        int lostByAll(Network net, int contacts) {
            int sum = 0;
            for (int i = 0; i < net.setting.sats.told; i++) {
                follow(net, i, contacts, SLOTS - 1);
                sum += lost;
            }
            return sum;
        }

        int gotByAll(Network net, int contacts) {
            int sum = 0;
            for (int i = 0; i < net.setting.sats.told; i++) {
                follow(net, i, contacts, SLOTS - 1);
                sum += got;
            }
            return sum;
        }
    }

    /**
     * BEST of one antenna, found from the last pass to the first: entry p tells of the best set of passes
     * p and behind. Passes are in the order of their first slots, so what goes together with one pass is
     * all that begins late enough.
     */
    private static final class Chain {
        final int[] volume = new int[MOST_PASSES + 1];
        final int[] length = new int[MOST_PASSES + 1];
        private final int[] head = new int[MOST_PASSES + 1];
        private final int[] rest = new int[MOST_PASSES + 1];

        void find(Network net, int a) {
            int end = net.passes.known;
            volume[end] = 0;
            length[end] = 0;
            head[end] = end;
            rest[end] = end;
            for (int p = end - 1; p >= 0; p--) {
                volume[p] = volume[p + 1];
                length[p] = length[p + 1];
                head[p] = head[p + 1];
                rest[p] = rest[p + 1];
                if (net.fits(p, a)) {
                    tryHead(net, a, p);
                }
            }
        }

        /** Of equal sets that with p is the first, because p is lower than all passes of the other. */
        private void tryHead(Network net, int a, int p) {
            int next = p + 1;
            while (next < net.passes.known && !net.goTogether(p, next, a)) {
                next++;
            }
            int sum = net.passes.volume[p] + volume[next];
            int size = 1 + length[next];
            if (sum > volume[p] || sum == volume[p] && size <= length[p]) {
                volume[p] = sum;
                length[p] = size;
                head[p] = p;
                rest[p] = next;
            }
        }

        /** The k-th pass of the set, or NONE. */
        int member(int k) {
            if (k < 0 || k >= length[0]) {
                return NONE;
            }
            int from = 0;
            for (int i = 0; i < k; i++) {
                from = rest[from];
            }
            return head[from];
        }
    }

    /**
     * PLAN for a window. What a way is worth depends only on which passes of the window have some antenna
     * (a mask), so each mask gets a rank once, ahead of the search: the lower, the better.
     */
    private static final class Planner {
        /** Antennas that a pass of the window could have beside the contacts outside it, as bits. */
        private final int[] open = new int[WINDOW];
        /** For two passes of the window, v ahead of w, at v * WINDOW + w: antennas they don't go together on. */
        private final int[] apart = new int[WINDOW * WINDOW];
        /** Passes of the window ahead of a pass that share its sat and a slot with it, as bits. */
        private final int[] rivals = new int[WINDOW];
        /**
         * A tree: at (1 << w) + mask the lowest rank that is still to be had when passes 0 to w - 1 of the
         * window are those of the mask; its leaves, at (1 << size) + mask, are the ranks themselves.
         */
        private final int[] outlook = new int[2 << WINDOW];
        private final int[] lossOfOne = new int[1 << WINDOW];
        private final int[] way = new int[WINDOW];
        private int outside;
        private int maskNow;
        private int size;
        private boolean isFound;
        private int law;
        private int first;
        private int mostChanges;
        private int bestRank;
        final int[] bestWay = new int[WINDOW];
        int bestMask;
        int bestChanges;

        /** What has been found is as good as new until something changes. */
        void forget() {
            isFound = false;
        }

        void find(Network net, Stores stores, int byLaw, int f, int c) {
            if (isFound && law == byLaw && first == f && mostChanges == c) {
                return;
            }
            law = byLaw;
            first = f;
            mostChanges = c;
            size = net.windowSize(f);
            int windowBits = (1 << size) - 1;
            outside = net.contactBits() & ~(windowBits << f);
            maskNow = (net.contactBits() >> f) & windowBits;
            findOpen(net);
            findApart(net);
            if (law == BY_MOST) {
                weighVolumes(net);
            } else {
                weighLosses(net, stores);
            }
            rankMasks();
            lookOut();
            startFromNow(net);
            tryPass(this, net, 0, 0, 0);
            isFound = true;
        }

        int contactBits(int mask) {
            return outside | mask << first;
        }

        private void findOpen(Network net) {
            for (int w = 0; w < size; w++) {
                open[w] = 0;
                for (int a = 0; a < net.setting.antennas.told; a++) {
                    if (net.fits(first + w, a) && net.clashWith(outside, first + w, a) == 0) {
                        open[w] |= 1 << a;
                    }
                }
            }
        }

        private void findApart(Network net) {
            for (int w = 0; w < size; w++) {
                rivals[w] = 0;
                for (int v = 0; v < w; v++) {
                    if (net.shareSatAndSlot(first + v, first + w)) {
                        rivals[w] |= 1 << v;
                    }
                    apart[v * WINDOW + w] = 0;
                    for (int a = 0; a < net.setting.antennas.told; a++) {
                        if (!net.goTogether(first + v, first + w, a)) {
                            apart[v * WINDOW + w] |= 1 << a;
                        }
                    }
                }
            }
        }

        /** The greatest volume is to have the lowest rank, so it counts below 0. */
        private void weighVolumes(Network net) {
            for (int mask = 0; mask < 1 << size; mask++) {
                outlook[(1 << size) + mask] = -net.volumeOf(mask << first);
            }
        }

        /** The loss of a sat hangs on its own passes alone, so few stores need to be followed. */
        private void weighLosses(Network net, Stores stores) {
            Arrays.fill(outlook, 0);
            for (int i = 0; i < net.setting.sats.told; i++) {
                int own = passesOf(net, i);
                for (int mask = 0; mask < 1 << size; mask++) {
                    if ((mask & ~own) == 0) {
                        stores.follow(net, i, contactBits(mask), SLOTS - 1);
                        lossOfOne[mask] = stores.lost;
                    }
                    outlook[(1 << size) + mask] += lossOfOne[mask & own];
                }
            }
        }

        private int passesOf(Network net, int i) {
            int own = 0;
            for (int w = 0; w < size; w++) {
                if (net.passes.satOf[first + w] == i) {
                    own |= 1 << w;
                }
            }
            return own;
        }

        /**
         * A rank is what the law weighs, then contacts, then changes, as one number: neither of the latter
         * two is above 6. Here changes are those between none and some antenna; the search adds the rest.
         * Masks with too many of them are never to be had.
         */
        private void rankMasks() {
            for (int mask = 0; mask < 1 << size; mask++) {
                int weight = outlook[(1 << size) + mask];
                int turned = Integer.bitCount(mask ^ maskNow);
                int rank = (weight * 8 + Integer.bitCount(mask)) * 8 + turned;
                outlook[(1 << size) + mask] = turned <= mostChanges ? rank : HOPELESS;
            }
        }

        private void lookOut() {
            for (int w = size - 1; w >= 0; w--) {
                for (int mask = 0; mask < 1 << w; mask++) {
                    int without = outlook[(2 << w) + mask];
                    int having = outlook[(2 << w) + (1 << w) + mask];
                    outlook[(1 << w) + mask] = open[w] == 0 ? without : Math.min(without, having);
                }
            }
        }

        /** The contacts as they stand are a way with no change, and the only such. */
        private void startFromNow(Network net) {
            System.arraycopy(net.now.antennaOf, first, bestWay, 0, size);
            bestMask = maskNow;
            bestRank = outlook[(1 << size) + maskNow];
            bestChanges = 0;
        }

        /**
         * Tries all ways in their order, those left out that cannot be better than the best so far.
         * w also counts the depth, which the window keeps low; moved are passes with another antenna than now.
         */
        private static void tryPass(Planner s, Network net, int w, int mask, int moved) {
            if (s.outlook[(1 << w) + mask] + moved >= s.bestRank || s.changesAhead(w, mask) + moved > s.mostChanges) {
                return;
            }
            if (w >= s.size) {
                s.keepWay(mask, moved);
                return;
            }
            s.way[w] = FREE;
            tryPass(s, net, w + 1, mask, moved);
            int free = s.freeAntennas(w, mask);
            int had = net.now.antennaOf[s.first + w];
            for (int a = 0; a < net.setting.antennas.told; a++) {
                if ((free >> a & 1) != 0) {
                    s.way[w] = a;
                    tryPass(s, net, w + 1, mask | 1 << w, had == FREE || had == a ? moved : moved + 1);
                }
            }
        }

        /** Changes between none and some antenna of the passes ahead of w. */
        private int changesAhead(int w, int mask) {
            return Integer.bitCount((mask ^ maskNow) & ((1 << w) - 1));
        }

        private void keepWay(int mask, int moved) {
            System.arraycopy(way, 0, bestWay, 0, size);
            bestMask = mask;
            bestRank = outlook[(1 << size) + mask] + moved;
            bestChanges = changesAhead(size, mask) + moved;
        }

        /** Antennas that pass w could have beside the contacts of the mask, all of them ahead of w. */
        private int freeAntennas(int w, int mask) {
            if ((rivals[w] & mask) != 0) {
                return 0;
            }
            int free = open[w];
            for (int v = 0; v < w; v++) {
                if ((mask >> v & 1) != 0) {
                    free &= ~(apart[v * WINDOW + w] & 1 << way[v]);
                }
            }
            return free;
        }
    }
}
