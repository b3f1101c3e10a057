import java.util.Arrays;

/** A wooden town whose fires must be under their lids from the bell till morning. */
public final class CoverFires {
    public static final int NONE = -1;

    private static final int FOR_OTHERS = -2;
    private static final int NO_RING = -10000;

    private static final int MOST_HOUSES = 8;
    private static final int MOST_TEXTS = 4;
    private static final int MOST_TOLD = 8;
    private static final int MOST_HOURS = 60;
    private static final int LAST_HOUR = 9999;
    private static final int DAY = 24;
    private static final int TAPE = 300;

    private static final int OUT = 0;
    private static final int COVERED = 1;
    private static final int OPEN = 2;
    private static final int BURNING = 3;
    private static final int BURNT = 4;

    private static final int WAS_LIT = 0;
    private static final int WAS_FETCHED = 1;
    private static final int WENT_OUT = 2;
    private static final int CAUGHT = 3;
    private static final int BURNED_DOWN = 4;
    private static final int WAS_FINED = 5;

    private final Whole now;
    private final Whole saved;
    private final Town ahead;
    private final Laws laws;
    private final Reader reader;
    private final Ways ways;
    private final Dawn givers;
    private final Origin origin;
    private final int[] tape;
    private final int[] sums;
    private int taped;

    public CoverFires() {
        now = new Whole();
        saved = new Whole();
        ahead = new Town();
        laws = new Laws();
        reader = new Reader();
        ways = new Ways();
        givers = new Dawn();
        origin = new Origin();
        tape = new int[TAPE];
        sums = new int[DAY];
    }

    public int house(int wood, int coins) {
        return now.town.settle(wood, coins);
    }

    public boolean street(int one, int other, int length) {
        if (!now.town.told(one) || !now.town.told(other) || one == other || !within(length, 0, 99)) {
            return false;
        }
        now.streets.lay(one, other, length);
        return true;
    }

    public int feed(int a, int b, int c, int d, int e) {
        if (taped > TAPE - 20) {
            return NONE;
        }
        putFour(a);
        putFour(b);
        putFour(c);
        putFour(d);
        putFour(e);
        return taped;
    }

    public int end(int n) {
        if (!within(n, 0, taped)) {
            return NONE;
        }
        taped = n;
        return n;
    }

    public int text() {
        if (now.textCount >= MOST_TEXTS) {
            return NONE;
        }
        Text read = reader.read(tape, taped);
        taped = 0;
        return read == null ? NONE : now.shelve(read);
    }

    public int fault(int what) {
        if (!reader.hasRead || !within(what, 0, 1)) {
            return NONE;
        }
        return what == 0 ? reader.fault : reader.place;
    }

    public boolean by(int text) {
        if (text != NONE && !within(text, 0, now.textCount - 1)) {
            return false;
        }
        now.ruling = text;
        return true;
    }

    public boolean light(int house) {
        return tried(Tokens.LIGHT, house, NONE);
    }

    public boolean cover(int house) {
        return tried(Tokens.COVER, house, NONE);
    }

    public boolean open(int house) {
        return tried(Tokens.OPEN, house, NONE);
    }

    public int fetch(int house, int from) {
        return tried(Tokens.FETCH, house, from) && now.town.told(from) ? now.town.heat[from] : NONE;
    }

    public boolean quench(int house) {
        return tried(Tokens.QUENCH, house, NONE);
    }

    public int warden(int house) {
        if (!now.town.told(house)) {
            return FOR_OTHERS;
        }
        now.steps.keep(now.town);
        return laws.visit(now.town, now.streets, now.rule(), house);
    }

    public int hour(int n) {
        if (!within(n, 1, MOST_HOURS) || n > LAST_HOUR - now.town.clock) {
            return NONE;
        }
        return passHours(n);
    }

    public int played(int text) {
        Text script = now.textOf(text);
        if (script == null) {
            return FOR_OTHERS;
        }
        for (int clause = 0; clause < script.clauseCount(); clause++) {
            boolean done;
            if (script.kind(clause) == Tokens.HOUR) {
                int hours = script.number(clause, 0);
                done = hours <= LAST_HOUR - now.town.clock;
                passHours(hours);
            } else {
                done = carriedOut(script, clause);
            }
            if (!done) {
                return clause;
            }
        }
        return NONE;
    }

    public int winters(int seed, int n) {
        if (!within(seed, 0, 9999) || !within(n, 1, 40)) {
            return NONE;
        }
        now.steps.keep(now.town);
        now.town.x = seed * 2 + 163;
        for (int i = 0; i < n; i++) {
            befallByDraw(now.town.nextX());
        }
        return now.town.clock;
    }

    public int undo() {
        return now.steps.takeBack(now.town) ? now.steps.count : NONE;
    }

    public int of(int house, int what) {
        if (!now.town.told(house)) {
            return NONE;
        }
        Town town = now.town;
        switch (what) {
            case 0: return town.wood[house];
            case 1: return town.coins[house];
            case 2: return town.fire[house];
            case 3: return town.heat[house];
            case 4: return rateNow(Tokens.COOLS, house);
            case 5: return rateNow(Tokens.SPREADS, house);
            case 6: return rateNow(Tokens.FINE, house);
            case 7: return now.streets.near(house, town.housesBy(BURNING, BURNING));
            default: return NONE;
        }
    }

    public int is(int what) {
        switch (what) {
            case 0: return now.town.clock;
            case 1: return now.town.bell() ? 1 : 0;
            case 2: return now.town.wind;
            case 3: return now.town.x;
            default: return FOR_OTHERS;
        }
    }

    public int book(int i, int what) {
        if (i == NONE) {
            return now.town.noted;
        }
        if (!within(i, 0, now.town.noted - 1)) {
            return FOR_OTHERS;
        }
        int note = now.town.notes[i];
        switch (what) {
            case 0: return Town.hourOf(note);
            case 1: return Town.houseOf(note);
            case 2: return Town.whatOf(note);
            default: return FOR_OTHERS;
        }
    }

    public int foretold(int n, int house, int what) {
        if (!within(n, 1, MOST_HOURS) || !within(what, 0, 2) || what < 2 && !now.town.told(house)) {
            return NONE;
        }
        ahead.copyFrom(now.town);
        for (int i = 0; i < n && ahead.clock < LAST_HOUR; i++) {
            laws.pass(ahead, now.streets, now.rule());
        }
        if (what == 2) {
            return Integer.bitCount(ahead.housesBy(BURNT, BURNT));
        }
        return what == 0 ? ahead.fire[house] : ahead.heat[house];
    }

    public int out(int house) {
        if (!now.town.told(house)) {
            return NONE;
        }
        ahead.copyFrom(now.town);
        for (int hours = 0; hours <= MOST_HOURS; hours++) {
            if (ahead.fire[house] == OUT) {
                return hours;
            }
            if (ahead.clock >= LAST_HOUR) {
                return NONE;
            }
            laws.pass(ahead, now.streets, now.rule());
        }
        return NONE;
    }

    public int far(int one, int other) {
        if (!now.town.told(one) || !now.town.told(other)) {
            return NONE;
        }
        ways.measure(now.streets, false);
        int length = ways.between(one, other);
        return length < Ways.NO_WAY ? length : NONE;
    }

    public int round(int what) {
        switch (what) {
            case 0: return ways.walk(now.streets);
            case 1: return now.streets.odd();
            default: return NONE;
        }
    }

    public int again(int house) {
        if (!now.town.told(house) || !now.streets.hangTogether()) {
            return NONE;
        }
        return ways.partner(now.streets, house);
    }

    public boolean warmth(int h, int warmth) {
        if (!within(h, 0, DAY - 1) || !within(warmth, -99, 99)) {
            return false;
        }
        now.warmths[h] = warmth;
        return true;
    }

    public int ring(int what) {
        if (!within(what, 0, 2)) {
            return NO_RING;
        }
        int start = 0;
        int hours = 0;
        int least = 0;
        for (int m = 1; m < DAY; m++) {
            for (int a = 0; a < DAY; a++) {
                int sum = (m == 1 ? 0 : sums[a]) + now.warmths[(a + m - 1) % DAY];
                sums[a] = sum;
                if (hours == 0 || sum < least) {
                    start = a;
                    hours = m;
                    least = sum;
                }
            }
        }
        return what == 0 ? start : what == 1 ? hours : least;
    }

    public int dawn(int g, int house) {
        if (!within(g, 1, 8)) {
            return FOR_OTHERS;
        }
        if (house != NONE && (!now.town.told(house) || now.town.fire[house] != OUT)) {
            return FOR_OTHERS;
        }
        givers.settle(now.town, now.streets, g);
        return house == NONE ? givers.most : givers.best[house];
    }

    public int chain(int house) {
        if (!now.town.told(house) || now.town.fire[house] != OUT) {
            return NONE;
        }
        int outs = now.town.housesBy(OUT, OUT);
        int have = now.town.mayGive();
        for (int hours = 1; hours <= MOST_HOUSES; hours++) {
            have |= now.streets.besideAll(have) & outs;
            if ((have >> house & 1) == 1) {
                return hours;
            }
        }
        return NONE;
    }

    public int stone(int n, boolean joined) {
        if (!within(n, 0, MOST_HOUSES)) {
            return NONE;
        }
        int set = stoneSet(n);
        return joined ? now.streets.greatest(now.town.all() & ~set) : set;
    }

    public int seen(int house, int hour, boolean caught) {
        if (house == NONE) {
            now.seenCount = 0;
            return 0;
        }
        if (!now.town.told(house) || !within(hour, 0, 99) || now.seenCount >= MOST_TOLD) {
            return FOR_OTHERS;
        }
        now.seenHouse[now.seenCount] = house;
        now.seenHour[now.seenCount] = hour;
        now.seenCaught[now.seenCount] = caught;
        now.seenCount++;
        return now.seenCount;
    }

    public int began(int house) {
        if (house != NONE && !now.town.told(house)) {
            return FOR_OTHERS;
        }
        ways.measure(now.streets, true);
        if (house != NONE) {
            return origin.hoursFrom(now, ways, house);
        }
        int bits = 0;
        for (int h = 0; h < now.town.count; h++) {
            if (origin.hoursFrom(now, ways, h) > 0) {
                bits |= 1 << h;
            }
        }
        return bits;
    }

    public int whom() {
        ways.measure(now.streets, true);
        origin.gather(now, ways);
        int best = NONE;
        int most = 0;
        for (int h = 0; h < now.town.count; h++) {
            int unlike = origin.unlike(h);
            if (unlike > most) {
                best = h;
                most = unlike;
            }
        }
        return best;
    }

    public boolean bid(int house, int bid) {
        if (!now.town.told(house) || !within(bid, 0, 99)) {
            return false;
        }
        now.bids[house] = bid;
        return true;
    }

    public int leave(int k, boolean paid) {
        if (!within(k, 0, MOST_HOUSES)) {
            return NONE;
        }
        int having = 0;
        for (int i = 0; i < k; i++) {
            int highest = highestBidder(having);
            having |= highest == NONE ? 0 : 1 << highest;
        }
        if (!paid) {
            return having;
        }
        int next = highestBidder(having);
        return within(next, 0, MOST_HOUSES - 1) ? now.bids[next] : 0;
    }

    public int cooled(int house, int by) {
        if (house == NONE) {
            now.cooledCount = 0;
            return 0;
        }
        if (!now.town.told(house) || !within(by, 0, 9) || now.cooledCount >= MOST_TOLD) {
            return FOR_OTHERS;
        }
        now.cooledHouse[now.cooledCount] = house;
        now.cooledBy[now.cooledCount] = by;
        now.cooledCount++;
        return now.cooledCount;
    }

    public int whose() {
        int bits = 0;
        for (int t = 0; t < now.textCount; t++) {
            if (coolsAsTold(now.textOf(t))) {
                bits |= 1 << t;
            }
        }
        return bits;
    }

    public int befell(int house, int what) {
        if (house != NONE && !now.town.told(house) || !within(what, WAS_LIT, WAS_FINED)) {
            return FOR_OTHERS;
        }
        int many = 0;
        for (int i = 0; i < now.town.noted; i++) {
            int note = now.town.notes[i];
            if (Town.whatOf(note) == what && (house == NONE || Town.houseOf(note) == house)) {
                many++;
            }
        }
        return many;
    }

    public int parts() {
        return now.streets.groups(now.town.all());
    }

    public int warmest() {
        int best = NONE;
        int most = 0;
        for (int h = 0; h < now.town.count; h++) {
            if (now.town.heat[h] > most) {
                best = h;
                most = now.town.heat[h];
            }
        }
        return best;
    }

    public int leaves() {
        int bits = 0;
        for (int h = 0; h < MOST_HOUSES; h++) {
            if (Integer.bitCount(now.streets.beside[h]) == 1) {
                bits |= 1 << h;
            }
        }
        return bits;
    }

    public int kept() {
        return now.town.housesBy(COVERED, OPEN);
    }

    public int image() {
        saved.copyFrom(now);
        return now.town.clock;
    }

    public int back() {
        now.copyFrom(saved);
        return now.town.clock;
    }

    public int about(int what) {
        switch (what) {
            case 0: return now.town.count;
            case 1: return now.textCount;
            case 2: return now.ruling;
            case 3: return now.steps.count;
            case 4: return now.seenCount;
            case 5: return now.cooledCount;
            case 6: return taped;
            default: return FOR_OTHERS;
        }
    }

    private static boolean within(int number, int least, int most) {
        return number >= least && number <= most;
    }

    private void putFour(int four) {
        for (int shift = 24; shift >= 0; shift -= 8) {
            if (taped < TAPE) {
                tape[taped] = four >> shift & 255;
                taped++;
            }
        }
    }

    private boolean tried(int act, int house, int from) {
        if (!now.town.can(act, house, from, now.streets)) {
            return false;
        }
        now.steps.keep(now.town);
        now.town.act(act, house, from);
        return true;
    }

    /** Each HOUR is a STEP of its own; those beyond the last HOUR don't pass. */
    private int passHours(int n) {
        int caught = 0;
        for (int i = 0; i < n && now.town.clock < LAST_HOUR; i++) {
            now.steps.keep(now.town);
            caught += laws.pass(now.town, now.streets, now.rule());
        }
        return caught;
    }

    private boolean carriedOut(Text script, int clause) {
        int first = script.number(clause, 0);
        int second = script.number(clause, 1);
        int kind = script.kind(clause);
        switch (kind) {
            case Tokens.COOLS:
            case Tokens.SPREADS:
            case Tokens.FINE:
                return true;
            case Tokens.HOUSE:
                return house(first, second) != NONE;
            case Tokens.STREET:
                return street(first, second, script.number(clause, 2));
            case Tokens.WARDEN:
                return warden(first) != FOR_OTHERS;
            default:
                return tried(kind, first, second);
        }
    }

    /** What one number of a winter brings about; it is part of the winter's one STEP. */
    private void befallByDraw(int drawn) {
        int kind = drawn % 8;
        if (kind == 7 && now.town.clock < LAST_HOUR) {
            laws.pass(now.town, now.streets, now.rule());
        }
        int count = now.town.count;
        if (kind == 7 || count <= 0) {
            return;
        }
        int house = drawn % count;
        if (kind == 6) {
            laws.visit(now.town, now.streets, now.rule(), house);
            return;
        }
        int act = actOfDraw(kind);
        int from = drawn / 8 % count;
        if (now.town.can(act, house, from, now.streets)) {
            now.town.act(act, house, from);
        }
    }

    private static int actOfDraw(int kind) {
        switch (kind) {
            case 2: return Tokens.COVER;
            case 3: return Tokens.OPEN;
            case 4: return Tokens.FETCH;
            case 5: return Tokens.QUENCH;
            default: return Tokens.LIGHT;
        }
    }

    private int rateNow(int law, int house) {
        return laws.rateToday(now.town, now.streets, now.rule(), law, house);
    }

    private int stoneSet(int n) {
        int all = now.town.all();
        int best = 0;
        int least = now.streets.greatest(all);
        for (int set = 1; set <= all; set++) {
            int stones = Integer.bitCount(set);
            if (stones <= n) {
                int most = now.streets.greatest(all & ~set);
                if (most < least || most == least && stones < Integer.bitCount(best)) {
                    best = set;
                    least = most;
                }
            }
        }
        return best;
    }

    private int highestBidder(int left) {
        int best = NONE;
        for (int h = 0; h < now.town.count; h++) {
            boolean asks = (left >> h & 1) == 0;
            if (asks && (best == NONE || now.bids[h] > now.bids[best])) {
                best = h;
            }
        }
        return best;
    }

    private boolean coolsAsTold(Text text) {
        for (int i = 0; i < now.cooledCount; i++) {
            int house = now.cooledHouse[i];
            int by = laws.rateToday(now.town, now.streets, text, Tokens.COOLS, house);
            if (by != now.cooledBy[i]) {
                return false;
            }
        }
        return true;
    }

    /** All that an image keeps. */
    private static final class Whole {
        final Town town = new Town();
        final Streets streets = new Streets();
        final Steps steps = new Steps();
        final Text[] texts = new Text[MOST_TEXTS];
        int textCount;
        int ruling = NONE;
        final int[] warmths = new int[DAY];
        final int[] bids = new int[MOST_HOUSES];
        final int[] seenHouse = new int[MOST_TOLD];
        final int[] seenHour = new int[MOST_TOLD];
        final boolean[] seenCaught = new boolean[MOST_TOLD];
        int seenCount;
        final int[] cooledHouse = new int[MOST_TOLD];
        final int[] cooledBy = new int[MOST_TOLD];
        int cooledCount;

        /** A TEXT never changes once it is read, so two wholes may share it. */
        void copyFrom(Whole other) {
            town.copyFrom(other.town);
            streets.copyFrom(other.streets);
            steps.copyFrom(other.steps);
            for (int t = 0; t < MOST_TEXTS; t++) {
                texts[t] = other.texts[t];
            }
            textCount = other.textCount;
            ruling = other.ruling;
            System.arraycopy(other.warmths, 0, warmths, 0, DAY);
            System.arraycopy(other.bids, 0, bids, 0, MOST_HOUSES);
            System.arraycopy(other.seenHouse, 0, seenHouse, 0, MOST_TOLD);
            System.arraycopy(other.seenHour, 0, seenHour, 0, MOST_TOLD);
            System.arraycopy(other.seenCaught, 0, seenCaught, 0, MOST_TOLD);
            seenCount = other.seenCount;
            System.arraycopy(other.cooledHouse, 0, cooledHouse, 0, MOST_TOLD);
            System.arraycopy(other.cooledBy, 0, cooledBy, 0, MOST_TOLD);
            cooledCount = other.cooledCount;
        }

        Text textOf(int number) {
            return within(number, 0, textCount - 1) && number < MOST_TEXTS ? texts[number] : null;
        }

        Text rule() {
            return textOf(ruling);
        }

        int shelve(Text read) {
            if (textCount >= MOST_TEXTS) {
                return NONE;
            }
            texts[textCount] = read;
            textCount++;
            return textCount - 1;
        }
    }

    /** HOUSES, their FIRES, the HOUR, the draws and the BOOK: what an HOUR changes. */
    private static final class Town {
        static final int MOST_NOTES = 30;
        /** What one STEP keeps: five numbers, three rows of HOUSES, the notes. */
        static final int ROW = 5 + 3 * MOST_HOUSES + MOST_NOTES;

        int count;
        final int[] wood = new int[MOST_HOUSES];
        final int[] coins = new int[MOST_HOUSES];
        final int[] fire = new int[MOST_HOUSES];
        final int[] heat = new int[MOST_HOUSES];
        int clock;
        int wind;
        int x = 163;
        final int[] notes = new int[MOST_NOTES];
        int noted;

        void copyFrom(Town other) {
            count = other.count;
            System.arraycopy(other.wood, 0, wood, 0, MOST_HOUSES);
            System.arraycopy(other.coins, 0, coins, 0, MOST_HOUSES);
            System.arraycopy(other.fire, 0, fire, 0, MOST_HOUSES);
            System.arraycopy(other.heat, 0, heat, 0, MOST_HOUSES);
            clock = other.clock;
            wind = other.wind;
            x = other.x;
            System.arraycopy(other.notes, 0, notes, 0, MOST_NOTES);
            noted = other.noted;
        }

        void store(int[] rows, int at) {
            if (at < 0 || at > rows.length - ROW) {
                return;
            }
            rows[at] = count;
            rows[at + 1] = clock;
            rows[at + 2] = wind;
            rows[at + 3] = x;
            rows[at + 4] = noted;
            System.arraycopy(coins, 0, rows, at + 5, MOST_HOUSES);
            System.arraycopy(fire, 0, rows, at + 5 + MOST_HOUSES, MOST_HOUSES);
            System.arraycopy(heat, 0, rows, at + 5 + 2 * MOST_HOUSES, MOST_HOUSES);
            System.arraycopy(notes, 0, rows, at + 5 + 3 * MOST_HOUSES, MOST_NOTES);
        }

        /** HOUSES told since the row was stored stay as they were told: no earlier STEP touched them. */
        void restore(int[] rows, int at) {
            if (at < 0 || at > rows.length - ROW) {
                return;
            }
            int houses = Math.max(0, Math.min(rows[at], MOST_HOUSES));
            clock = rows[at + 1];
            wind = rows[at + 2];
            x = rows[at + 3];
            noted = rows[at + 4];
            System.arraycopy(rows, at + 5, coins, 0, houses);
            System.arraycopy(rows, at + 5 + MOST_HOUSES, fire, 0, houses);
            System.arraycopy(rows, at + 5 + 2 * MOST_HOUSES, heat, 0, houses);
            System.arraycopy(rows, at + 5 + 3 * MOST_HOUSES, notes, 0, MOST_NOTES);
        }

        boolean told(int house) {
            return house >= 0 && house < count && house < MOST_HOUSES;
        }

        int all() {
            return (1 << count) - 1;
        }

        int settle(int itsWood, int itsCoins) {
            if (!within(itsWood, 0, 9) || !within(itsCoins, 0, 9999) || count >= MOST_HOUSES) {
                return NONE;
            }
            wood[count] = itsWood;
            coins[count] = itsCoins;
            fire[count] = OUT;
            heat[count] = 0;
            count++;
            return count - 1;
        }

        boolean bell() {
            int ofDay = clock % DAY;
            return ofDay >= 20 || ofDay < 6;
        }

        int nextX() {
            int drawn = x;
            x = (x * 397 + 277) % 30497;
            return drawn;
        }

        int draw() {
            return nextX() % 10;
        }

        boolean keeps(int house) {
            return fire[house] == COVERED || fire[house] == OPEN;
        }

        int housesBy(int leastFire, int mostFire) {
            int bits = 0;
            for (int h = 0; h < count; h++) {
                if (fire[h] >= leastFire && fire[h] <= mostFire) {
                    bits |= 1 << h;
                }
            }
            return bits;
        }

        int mayGive() {
            int bits = 0;
            for (int h = 0; h < count; h++) {
                if (keeps(h) && heat[h] >= 2) {
                    bits |= 1 << h;
                }
            }
            return bits;
        }

        boolean can(int act, int house, int from, Streets streets) {
            if (!told(house)) {
                return false;
            }
            switch (act) {
                case Tokens.LIGHT: return fire[house] == OUT;
                case Tokens.COVER: return fire[house] == OPEN;
                case Tokens.OPEN: return fire[house] == COVERED;
                case Tokens.QUENCH: return fire[house] == BURNING;
                case Tokens.FETCH: return fire[house] == OUT && told(from)
                        && (streets.beside[house] & mayGive() & 1 << from) != 0;
                default: return false;
            }
        }

        /** Does what can(..) has allowed. */
        void act(int act, int house, int from) {
            switch (act) {
                case Tokens.LIGHT:
                    set(house, OPEN, 9);
                    note(house, WAS_LIT);
                    break;
                case Tokens.COVER:
                    set(house, COVERED, heat[house]);
                    break;
                case Tokens.OPEN:
                    set(house, OPEN, heat[house]);
                    break;
                case Tokens.QUENCH:
                    set(house, OUT, 0);
                    break;
                case Tokens.FETCH:
                    heat[from]--;
                    set(house, OPEN, 5);
                    note(house, WAS_FETCHED);
                    break;
                default:
                    break;
            }
        }

        void set(int house, int itsFire, int itsHeat) {
            fire[house] = itsFire;
            heat[house] = itsHeat;
        }

        /** The eldest note gives way once the BOOK is full. */
        void note(int house, int what) {
            if (noted >= MOST_NOTES) {
                System.arraycopy(notes, 1, notes, 0, MOST_NOTES - 1);
                noted = MOST_NOTES - 1;
            }
            notes[noted] = clock << 6 | house << 3 | what;
            noted++;
        }

        static int hourOf(int note) {
            return note >> 6;
        }

        static int houseOf(int note) {
            return note >> 3 & 7;
        }

        static int whatOf(int note) {
            return note & 7;
        }
    }

    /** The latest STEPS, in a ring, each as the town was ahead of it. */
    private static final class Steps {
        static final int MOST = 30;

        final int[] rows = new int[MOST * Town.ROW];
        int first;
        int count;

        void copyFrom(Steps other) {
            System.arraycopy(other.rows, 0, rows, 0, rows.length);
            first = other.first;
            count = other.count;
        }

        void keep(Town town) {
            if (count >= MOST) {
                first = (first + 1) % MOST;
                count--;
            }
            town.store(rows, (first + count) % MOST * Town.ROW);
            count++;
        }

        boolean takeBack(Town town) {
            if (count <= 0) {
                return false;
            }
            count--;
            town.restore(rows, (first + count) % MOST * Town.ROW);
            return true;
        }
    }

    /** Which STREETS there are. */
    private static final class Streets {
        final int[] lengths = new int[MOST_HOUSES * MOST_HOUSES];
        /** Of each HOUSE those (bits) that a STREET leads to. */
        final int[] beside = new int[MOST_HOUSES];

        void copyFrom(Streets other) {
            System.arraycopy(other.lengths, 0, lengths, 0, lengths.length);
            System.arraycopy(other.beside, 0, beside, 0, MOST_HOUSES);
        }

        void lay(int one, int other, int length) {
            lengths[one * MOST_HOUSES + other] = length;
            lengths[other * MOST_HOUSES + one] = length;
            beside[one] = beside[one] & ~(1 << other) | (length > 0 ? 1 << other : 0);
            beside[other] = beside[other] & ~(1 << one) | (length > 0 ? 1 << one : 0);
        }

        int near(int house, int burning) {
            return Integer.bitCount(beside[house] & burning);
        }

        int besideAll(int houses) {
            int bits = 0;
            for (int h = 0; h < MOST_HOUSES; h++) {
                if ((houses >> h & 1) == 1) {
                    bits |= beside[h];
                }
            }
            return bits;
        }

        int together() {
            int sum = 0;
            for (int i = 0; i < lengths.length; i++) {
                sum += lengths[i];
            }
            return sum / 2;
        }

        int odd() {
            int bits = 0;
            for (int h = 0; h < MOST_HOUSES; h++) {
                bits |= (Integer.bitCount(beside[h]) & 1) << h;
            }
            return bits;
        }

        /** All (bits) that hang together with the lowest of some HOUSES, through these alone. */
        int group(int houses) {
            int found = houses & -houses;
            for (int i = 0; i < MOST_HOUSES; i++) {
                int more = found | besideAll(found) & houses;
                if (more == found) {
                    break;
                }
                found = more;
            }
            return found;
        }

        int groups(int houses) {
            int many = 0;
            int left = houses;
            for (int i = 0; i < MOST_HOUSES && left != 0; i++) {
                left &= ~group(left);
                many++;
            }
            return many;
        }

        int greatest(int houses) {
            int most = 0;
            int left = houses;
            for (int i = 0; i < MOST_HOUSES && left != 0; i++) {
                int found = group(left);
                most = Math.max(most, Integer.bitCount(found));
                left &= ~found;
            }
            return most;
        }

        /** HOUSES without a STREET don't count: a round need not come to them. */
        boolean hangTogether() {
            int walked = 0;
            for (int h = 0; h < MOST_HOUSES; h++) {
                if (beside[h] != 0) {
                    walked |= 1 << h;
                }
            }
            return groups(walked) <= 1;
        }
    }

    /** Shortest ways and the round through every STREET. */
    private static final class Ways {
        static final int NO_WAY = 1000000;

        final int[] lengths = new int[MOST_HOUSES * MOST_HOUSES];
        /** Of each even set of ODD HOUSES the least length by which it is paired. */
        final int[] paired = new int[1 << MOST_HOUSES];

        void measure(Streets streets, boolean byHours) {
            for (int i = 0; i < lengths.length; i++) {
                int length = streets.lengths[i];
                lengths[i] = length == 0 ? NO_WAY : byHours ? 1 : length;
            }
            for (int h = 0; h < MOST_HOUSES; h++) {
                lengths[h * MOST_HOUSES + h] = 0;
            }
            for (int over = 0; over < MOST_HOUSES; over++) {
                shorten(over);
            }
        }

        private void shorten(int over) {
            for (int one = 0; one < MOST_HOUSES; one++) {
                int there = lengths[one * MOST_HOUSES + over];
                for (int other = 0; other < MOST_HOUSES && there < NO_WAY; other++) {
                    int length = there + lengths[over * MOST_HOUSES + other];
                    int at = one * MOST_HOUSES + other;
                    lengths[at] = Math.min(lengths[at], length);
                }
            }
        }

        int between(int one, int other) {
            return lengths[one * MOST_HOUSES + other];
        }

        int walk(Streets streets) {
            if (!streets.hangTogether()) {
                return NONE;
            }
            int odd = streets.odd();
            pairUp(streets, odd);
            return streets.together() + paired[odd];
        }

        int partner(Streets streets, int house) {
            int left = streets.odd();
            pairUp(streets, left);
            for (int i = 0; i < MOST_HOUSES / 2 && left != 0; i++) {
                int low = lowestOf(left);
                int other = lowestPartner(left);
                if (low == house || other == house) {
                    return low == house ? other : low;
                }
                left &= ~(1 << low | 1 << other);
            }
            return NONE;
        }

        /** Smaller sets have lower numbers, so each set finds those that it needs done. */
        private void pairUp(Streets streets, int odd) {
            measure(streets, false);
            paired[0] = 0;
            for (int set = 1; set <= odd; set++) {
                if ((set & ~odd) == 0 && (Integer.bitCount(set) & 1) == 0) {
                    int other = lowestPartner(set);
                    paired[set] = other == NONE ? NO_WAY : with(set, other);
                }
            }
        }

        /** With whom the lowest HOUSE of a set is paired at least length, the lowest of such. */
        private int lowestPartner(int set) {
            int low = lowestOf(set);
            int best = NONE;
            for (int other = low + 1; other < MOST_HOUSES; other++) {
                boolean there = (set >> other & 1) == 1;
                if (there && (best == NONE || with(set, other) < with(set, best))) {
                    best = other;
                }
            }
            return best;
        }

        /** MOST_HOUSES for the empty set. */
        private static int lowestOf(int set) {
            int low = 0;
            while (low < MOST_HOUSES && (set >> low & 1) == 0) {
                low++;
            }
            return low;
        }

        private int with(int set, int other) {
            int low = lowestOf(set);
            if (low >= MOST_HOUSES || other >= MOST_HOUSES) {
                return NO_WAY;
            }
            return between(low, other) + paired[set & ~(1 << low | 1 << other)];
        }
    }

    /** Who gives to whom at dawn. */
    private static final class Dawn {
        final int[] best = new int[MOST_HOUSES];
        int most;
        private final int[] chosen = new int[MOST_HOUSES];
        private final int[] given = new int[MOST_HOUSES];
        private final int[] may = new int[MOST_HOUSES];
        private int asking;
        private int each;

        void settle(Town town, Streets streets, int g) {
            int giving = town.mayGive();
            int outs = town.housesBy(OUT, OUT);
            asking = 0;
            for (int h = 0; h < MOST_HOUSES; h++) {
                may[h] = (outs >> h & 1) == 1 ? streets.beside[h] & giving : 0;
                asking |= may[h] == 0 ? 0 : 1 << h;
                given[h] = 0;
                best[h] = NONE;
            }
            each = g;
            most = 0;
            choose(0, 0);
        }

        /** The lowest givers are tried first and only more givers win, so the first found stays. */
        private void choose(int house, int got) {
            if (got + Integer.bitCount(asking >> house) <= most) {
                return;
            }
            if (house < MOST_HOUSES) {
                chooseFor(house, got);
                return;
            }
            most = got;
            System.arraycopy(chosen, 0, best, 0, MOST_HOUSES);
        }

        private void chooseFor(int house, int got) {
            for (int giver = 0; giver < MOST_HOUSES; giver++) {
                if ((may[house] >> giver & 1) == 1 && given[giver] < each) {
                    given[giver]++;
                    chosen[house] = giver;
                    choose(house + 1, got + 1);
                    given[giver]--;
                }
            }
            chosen[house] = NONE;
            choose(house + 1, got);
        }
    }

    /** Where a fire may have begun, by what was SEEN. */
    private static final class Origin {
        static final int NEVER = 107;

        /** Of each HOUSE the answers that may come, two rows of 64 bits. */
        private final long[] low = new long[MOST_HOUSES];
        private final long[] high = new long[MOST_HOUSES];
        private int earliest;
        private int latest;

        int hoursFrom(Whole now, Ways ways, int start) {
            narrow(now, ways, start);
            return Math.max(0, latest - earliest + 1);
        }

        private void narrow(Whole now, Ways ways, int start) {
            earliest = 0;
            latest = 99;
            for (int i = 0; i < now.seenCount; i++) {
                int hops = ways.between(start, now.seenHouse[i]);
                int hour = now.seenHour[i] - hops;
                if (!now.seenCaught[i]) {
                    earliest = Math.max(earliest, hour + 1);
                } else {
                    earliest = Math.max(earliest, hour);
                    latest = Math.min(latest, hour);
                }
            }
        }

        void gather(Whole now, Ways ways) {
            for (int h = 0; h < MOST_HOUSES; h++) {
                low[h] = 0;
                high[h] = 0;
            }
            for (int start = 0; start < now.town.count; start++) {
                narrow(now, ways, start);
                for (int hour = earliest; hour <= latest; hour++) {
                    markAll(now, ways, start, hour);
                }
            }
        }

        private void markAll(Whole now, Ways ways, int start, int hour) {
            for (int h = 0; h < now.town.count; h++) {
                int hops = ways.between(start, h);
                int answer = hops < Ways.NO_WAY ? hour + hops : NEVER;
                if (answer < 64) {
                    low[h] |= 1L << answer;
                } else {
                    high[h] |= 1L << answer - 64;
                }
            }
        }

        int unlike(int house) {
            return Long.bitCount(low[house]) + Long.bitCount(high[house]);
        }
    }

    /** What rules: how embers cool, how a fire spreads, what a warden takes; and an HOUR by it. */
    private static final class Laws {
        static final int MOST_VALUE = 1000000;

        private final int[] stack = new int[TAPE];
        private int top;

        /** How many HOUSES caught. The HOURS that can pass are the caller's to count. */
        int pass(Town town, Streets streets, Text rule) {
            town.wind = town.draw();
            int burning = town.housesBy(BURNING, BURNING);
            int caught = 0;
            for (int h = 0; h < town.count; h++) {
                if ((burning >> h & 1) == 1) {
                    town.set(h, BURNT, 0);
                    town.note(h, BURNED_DOWN);
                } else if (catches(town, rule, h, streets.near(h, burning))) {
                    caught++;
                }
            }
            town.clock++;
            return caught;
        }

        private boolean catches(Town town, Text rule, int house, int near) {
            if (town.keeps(house)) {
                int left = town.heat[house] - rate(town, rule, Tokens.COOLS, house, near);
                town.heat[house] = Math.max(0, left);
                if (left <= 0) {
                    town.fire[house] = OUT;
                    town.note(house, WENT_OUT);
                }
            }
            if (town.fire[house] == BURNT || near == 0 && town.fire[house] != OPEN) {
                return false;
            }
            if (town.draw() >= rate(town, rule, Tokens.SPREADS, house, near)) {
                return false;
            }
            town.fire[house] = BURNING;
            town.note(house, CAUGHT);
            return true;
        }

        /** The fine; NONE if none is due. */
        int visit(Town town, Streets streets, Text rule, int house) {
            if (!town.bell() || town.fire[house] != OPEN) {
                return NONE;
            }
            int near = streets.near(house, town.housesBy(BURNING, BURNING));
            int fine = Math.min(rate(town, rule, Tokens.FINE, house, near), town.coins[house]);
            town.coins[house] -= fine;
            town.fire[house] = COVERED;
            town.note(house, WAS_FINED);
            return fine;
        }

        int rateToday(Town town, Streets streets, Text rule, int law, int house) {
            return rate(town, rule, law, house, streets.near(house, town.housesBy(BURNING, BURNING)));
        }

        private int rate(Town town, Text rule, int law, int house, int near) {
            int most = law == Tokens.COOLS ? 9 : law == Tokens.SPREADS ? 10 : 9999;
            int asked = rule == null || rule.firstSign(law) == NONE
                    ? without(town, law, house, near)
                    : value(town, rule, law, house, near);
            return Math.max(0, Math.min(most, asked));
        }

        private static int without(Town town, int law, int house, int near) {
            boolean isOpen = town.fire[house] == OPEN;
            switch (law) {
                case Tokens.COOLS: return isOpen ? 3 : 1;
                case Tokens.SPREADS: return isOpen ? town.wood[house] / 2 + near : town.wood[house] / 4;
                default: return 10;
            }
        }

        /** Each sign leads on to a later one, so a law is through after as many as it has. */
        private int value(Town town, Text rule, int law, int house, int near) {
            top = 0;
            int at = rule.firstSign(law);
            int behind = rule.behindSigns(law);
            for (int left = behind - at; left > 0 && at < behind; left--) {
                int sign = rule.sign(at);
                int number = rule.argument(at);
                at++;
                if (sign == Tokens.NUMBER) {
                    push(number);
                } else if (sign == Tokens.ELSE) {
                    at = number;
                } else if (sign == Tokens.IF) {
                    at = pop() == 0 ? number : at;
                } else if (sign >= Tokens.HOUR && sign <= Tokens.PURSE) {
                    push(named(town, sign, house, near));
                } else if (sign >= Tokens.NEGATED) {
                    push(ofOne(town, sign, pop()));
                } else {
                    int right = pop();
                    push(ofTwo(sign, pop(), right));
                }
            }
            return pop();
        }

        private void push(int number) {
            if (top >= 0 && top < stack.length) {
                stack[top] = number;
                top++;
            }
        }

        private int pop() {
            if (top <= 0 || top > stack.length) {
                return 0;
            }
            top--;
            return stack[top];
        }

        private static int named(Town town, int name, int house, int near) {
            switch (name) {
                case Tokens.HOUR: return town.clock;
                case Tokens.BELL: return town.bell() ? 1 : 0;
                case Tokens.WIND: return town.wind;
                case Tokens.WHO: return house;
                case Tokens.WOOD: return town.wood[house];
                case Tokens.FIRE: return town.fire[house];
                case Tokens.HEAT: return town.heat[house];
                case Tokens.NEAR: return near;
                case Tokens.PURSE: return town.coins[house];
                default: return 0;
            }
        }

        private static int ofOne(Town town, int sign, int number) {
            switch (sign) {
                case Tokens.NEGATED: return -number;
                case Tokens.WARM: return town.told(number) ? town.heat[number] : 0;
                case Tokens.NOT: return number == 0 ? 1 : 0;
                case Tokens.ODD: return number & 1;
                case Tokens.EVEN: return ~number & 1;
                default: return 0;
            }
        }

        private static int ofTwo(int sign, int left, int right) {
            long made;
            switch (sign) {
                case Tokens.PLUS: made = (long) left + right; break;
                case Tokens.MINUS: made = (long) left - right; break;
                case Tokens.TIMES: made = (long) left * right; break;
                case Tokens.DIVIDED: made = right == 0 ? 0 : left / right; break;
                case Tokens.LESS: made = left < right ? 1 : 0; break;
                case Tokens.AT_MOST: made = left <= right ? 1 : 0; break;
                case Tokens.MORE: made = left > right ? 1 : 0; break;
                case Tokens.AT_LEAST: made = left >= right ? 1 : 0; break;
                case Tokens.LIKE: made = left == right ? 1 : 0; break;
                case Tokens.UNLIKE: made = left != right ? 1 : 0; break;
                case Tokens.AND: made = left & right; break;
                case Tokens.OR: made = left | right; break;
                default: made = 0; break;
            }
            return (int) Math.max(-MOST_VALUE, Math.min(MOST_VALUE, made));
        }
    }

    /** A TEXT that was read: its CLAUSES, and its laws as signs behind what they work on. */
    private static final class Text {
        /** A CLAUSE's kind and up to three NUMBERS. */
        static final int WIDE = 4;

        private final int[] clauses;
        private final int[] signs;
        private final int[] arguments;
        private final int[] starts;
        private final int[] ends;

        Text(int[] clauses, int[] signs, int[] arguments, int[] starts, int[] ends) {
            this.clauses = clauses;
            this.signs = signs;
            this.arguments = arguments;
            this.starts = starts;
            this.ends = ends;
        }

        int clauseCount() {
            return clauses.length / WIDE;
        }

        int kind(int clause) {
            return clause >= 0 && clause < clauses.length / WIDE ? clauses[clause * WIDE] : NONE;
        }

        int number(int clause, int which) {
            boolean there = clause >= 0 && clause < clauses.length / WIDE && which >= 0 && which < WIDE - 1;
            return there ? clauses[clause * WIDE + 1 + which] : NONE;
        }

        /** NONE if the TEXT is without such a law. */
        int firstSign(int law) {
            return law >= 0 && law < starts.length ? starts[law] : NONE;
        }

        int behindSigns(int law) {
            return law >= 0 && law < ends.length ? ends[law] : NONE;
        }

        int sign(int at) {
            return at >= 0 && at < signs.length ? signs[at] : NONE;
        }

        int argument(int at) {
            return at >= 0 && at < arguments.length ? arguments[at] : 0;
        }
    }

    /** The tape cut into TOKENS: what each is, its NUMBER, its first byte. */
    private static final class Tokens {
        static final int COOLS = 0;
        static final int SPREADS = 1;
        static final int FINE = 2;
        static final int HOUSE = 3;
        static final int STREET = 4;
        static final int LIGHT = 5;
        static final int COVER = 6;
        static final int OPEN = 7;
        static final int FETCH = 8;
        static final int QUENCH = 9;
        static final int WARDEN = 10;
        /** The last word of a CLAUSE and the first NAME at once. */
        static final int HOUR = 11;
        static final int BELL = 12;
        static final int WIND = 13;
        static final int WHO = 14;
        static final int WOOD = 15;
        static final int FIRE = 16;
        static final int HEAT = 17;
        static final int NEAR = 18;
        static final int PURSE = 19;
        static final int COINS = 20;
        static final int TO = 21;
        static final int OF = 22;
        static final int FROM = 23;
        static final int IF = 24;
        static final int THEN = 25;
        static final int ELSE = 26;
        static final int END = 27;
        static final int AND = 28;
        static final int OR = 29;
        static final int LESS = 30;
        static final int AT_MOST = 31;
        static final int MORE = 32;
        static final int AT_LEAST = 33;
        static final int LIKE = 34;
        static final int UNLIKE = 35;
        static final int PLUS = 36;
        static final int MINUS = 37;
        static final int TIMES = 38;
        static final int DIVIDED = 39;
        static final int OPENING = 40;
        static final int CLOSING = 41;
        static final int STOP = 42;
        static final int NUMBER = 43;
        static final int NO_TOKEN = 44;
        static final int OVER = 45;
        /** From here on: signs of one operand. NEGATED is a law's alone, no TOKEN. */
        static final int NEGATED = 46;
        static final int WARM = 47;
        static final int NOT = 48;
        static final int ODD = 49;
        static final int EVEN = 50;

        /** Above all that a NUMBER may be. */
        static final int TOO_GREAT = 10000;

        private static final int WORD = 8;
        /** Each word at WORD times how far it is behind the first of its row. */
        private static final String FROM_COOLS = "cools   spreads fine    house   street  light   cover   open    ";
        private static final String FROM_FETCH = "fetch   quench  warden  hour    bell    wind    who     wood    ";
        private static final String FROM_FIRE = "fire    heat    near    purse   coins   to      of      from    ";
        private static final String FROM_IF = "if      then    else    end     and     or      ";
        private static final String FROM_WARM = "warm    not     odd     even    ";
        /** From LESS on; what has two signs stands as a blank, which is no sign. */
        private static final String SIGNS = "< > =#+-*/();";

        private final int[] kinds = new int[TAPE + 1];
        private final int[] numbers = new int[TAPE + 1];
        private final int[] places = new int[TAPE + 1];
        private int count;

        void cut(int[] tape, int length) {
            count = 0;
            int at = 0;
            for (int left = TAPE; left > 0 && at < length && at < tape.length; left--) {
                int sign = tape[at];
                if (sign == ' ' || sign == '\n') {
                    at++;
                } else {
                    at = cutOne(tape, at, Math.min(length, tape.length));
                }
            }
            add(OVER, 0, length);
        }

        int kind(int at) {
            return at >= 0 && at < count ? kinds[at] : OVER;
        }

        int number(int at) {
            return at >= 0 && at < count ? numbers[at] : 0;
        }

        int place(int at) {
            return at >= 0 && at < count ? places[at] : NONE;
        }

        /** Where the end of the tape stands among the TOKENS. */
        int last() {
            return count - 1;
        }

        private void add(int kind, int number, int place) {
            if (count < kinds.length) {
                kinds[count] = kind;
                numbers[count] = number;
                places[count] = place;
                count++;
            }
        }

        private int cutOne(int[] tape, int at, int length) {
            int behind = at + 1;
            if (isLetter(tape[at])) {
                while (behind < length && isLetter(tape[behind])) {
                    behind++;
                }
                add(wordAt(tape, at, behind), 0, at);
            } else if (isDigit(tape[at])) {
                int number = tape[at] - '0';
                while (behind < length && isDigit(tape[behind])) {
                    number = Math.min(TOO_GREAT, number * 10 + tape[behind] - '0');
                    behind++;
                }
                add(NUMBER, number, at);
            } else {
                int kind = signOf(tape[at]);
                if ((kind == LESS || kind == MORE) && behind < length && tape[behind] == '=') {
                    kind++;
                    behind++;
                }
                add(kind, 0, at);
            }
            return behind;
        }

        private static boolean isLetter(int sign) {
            return within(sign, 'a', 'z') || within(sign, 'A', 'Z');
        }

        private static boolean isDigit(int sign) {
            return within(sign, '0', '9');
        }

        private static int signOf(int sign) {
            int at = sign == ' ' ? NONE : SIGNS.indexOf((char) sign);
            return at < 0 ? NO_TOKEN : LESS + at;
        }

        private static int wordAt(int[] tape, int at, int behind) {
            int found = wordIn(FROM_COOLS, COOLS, tape, at, behind);
            found = found == NO_TOKEN ? wordIn(FROM_FETCH, FETCH, tape, at, behind) : found;
            found = found == NO_TOKEN ? wordIn(FROM_FIRE, FIRE, tape, at, behind) : found;
            found = found == NO_TOKEN ? wordIn(FROM_IF, IF, tape, at, behind) : found;
            return found == NO_TOKEN ? wordIn(FROM_WARM, WARM, tape, at, behind) : found;
        }

        private static int wordIn(String words, int first, int[] tape, int at, int behind) {
            for (int word = 0; word < words.length() / WORD; word++) {
                if (isWord(words, word * WORD, tape, at, behind)) {
                    return first + word;
                }
            }
            return NO_TOKEN;
        }

        /** No word fills its place, so a blank always ends it. */
        private static boolean isWord(String words, int from, int[] tape, int at, int behind) {
            if (behind - at >= WORD || from < 0 || from > words.length() - WORD) {
                return false;
            }
            for (int i = 0; i < WORD; i++) {
                int sign = at + i < behind && at + i < tape.length ? tape[at + i] : ' ';
                if (words.charAt(from + i) != sign) {
                    return false;
                }
            }
            return true;
        }
    }

    /** Reads the TOKENS from the left; the first FAULT ends it. */
    private static final class Reader {
        static final int MOST_CLAUSES = 24;
        static final int DEEPEST = 8;
        static final int LAWS = 3;

        boolean hasRead;
        int fault;
        int place;
        private final Tokens tokens = new Tokens();
        private int at;
        private final int[] clauses = new int[MOST_CLAUSES * Text.WIDE];
        private int clauseCount;
        private final int[] signs = new int[TAPE];
        private final int[] arguments = new int[TAPE];
        private int signCount;
        private final int[] starts = new int[LAWS];
        private final int[] ends = new int[LAWS];
        private int law;

        /** Null if the tape has a FAULT. */
        Text read(int[] tape, int length) {
            begin();
            tokens.cut(tape, length);
            for (int i = 0; i <= MOST_CLAUSES && tokens.kind(at) != Tokens.OVER; i++) {
                clause();
            }
            if (fault != 0) {
                return null;
            }
            return new Text(Arrays.copyOf(clauses, clauseCount * Text.WIDE),
                    Arrays.copyOf(signs, signCount), Arrays.copyOf(arguments, signCount),
                    starts.clone(), ends.clone());
        }

        private void begin() {
            hasRead = true;
            fault = 0;
            place = NONE;
            at = 0;
            clauseCount = 0;
            signCount = 0;
            for (int i = 0; i < LAWS; i++) {
                starts[i] = NONE;
                ends[i] = NONE;
            }
        }

        /** What is behind a FAULT is passed over, so that every part comes to rest. */
        private void fail(int what) {
            if (fault == 0) {
                fault = what;
                place = tokens.place(at);
            }
            at = tokens.last();
        }

        private void take(int kind) {
            if (tokens.kind(at) == kind) {
                at++;
            } else {
                fail(1);
            }
        }

        private int takeNumber(int least, int most) {
            int number = tokens.number(at);
            if (tokens.kind(at) != Tokens.NUMBER) {
                fail(1);
            } else if (!within(number, least, most)) {
                fail(2);
            } else {
                at++;
            }
            return number;
        }

        private void clause() {
            int kind = tokens.kind(at);
            if (kind > Tokens.HOUR) {
                fail(1);
            } else if (kind < LAWS && starts[kind] != NONE) {
                fail(4);
            } else if (clauseCount >= MOST_CLAUSES) {
                fail(6);
            } else {
                at++;
                if (kind < LAWS) {
                    law = kind;
                    starts[kind] = signCount;
                    sum(0);
                    ends[kind] = signCount;
                    addClause(kind, NONE, NONE, NONE);
                } else {
                    readAct(kind);
                }
                take(Tokens.STOP);
            }
        }

        private void addClause(int kind, int first, int second, int third) {
            int row = clauseCount * Text.WIDE;
            if (clauseCount < MOST_CLAUSES) {
                clauses[row] = kind;
                clauses[row + 1] = first;
                clauses[row + 2] = second;
                clauses[row + 3] = third;
                clauseCount++;
            }
        }

        private void readAct(int kind) {
            int first = NONE;
            int second = NONE;
            int third = NONE;
            switch (kind) {
                case Tokens.HOUSE:
                    first = takeNumber(0, 9);
                    take(Tokens.COINS);
                    second = takeNumber(0, 9999);
                    break;
                case Tokens.STREET:
                    first = takeNumber(0, 7);
                    take(Tokens.TO);
                    second = takeNumber(0, 7);
                    take(Tokens.OF);
                    third = takeNumber(0, 99);
                    break;
                case Tokens.FETCH:
                    first = takeNumber(0, 7);
                    take(Tokens.FROM);
                    second = takeNumber(0, 7);
                    break;
                case Tokens.HOUR:
                    first = takeNumber(1, MOST_HOURS);
                    break;
                default:
                    first = takeNumber(0, 7);
                    break;
            }
            addClause(kind, first, second, third);
        }

        private int emit(int sign, int argument) {
            if (signCount >= signs.length) {
                return NONE;
            }
            signs[signCount] = sign;
            arguments[signCount] = argument;
            signCount++;
            return signCount - 1;
        }

        /** A jump's goal is known only once what it leaps over has been read. */
        private void leadHere(int jump) {
            if (within(jump, 0, arguments.length - 1)) {
                arguments[jump] = signCount;
            }
        }

        /** deep: how many of ( not warm if - are open around. */
        private void sum(int deep) {
            product(deep);
            for (int left = TAPE; left > 0; left--) {
                int sign = tokens.kind(at);
                if (sign != Tokens.PLUS && sign != Tokens.MINUS) {
                    return;
                }
                at++;
                product(deep);
                emit(sign, 0);
            }
        }

        private void product(int deep) {
            one(deep);
            for (int left = TAPE; left > 0; left--) {
                int sign = tokens.kind(at);
                if (sign != Tokens.TIMES && sign != Tokens.DIVIDED) {
                    return;
                }
                at++;
                one(deep);
                emit(sign, 0);
            }
        }

        private void one(int deep) {
            int kind = tokens.kind(at);
            if (kind == Tokens.NUMBER) {
                emit(kind, takeNumber(0, 9999));
            } else if (kind >= Tokens.HOUR && kind <= Tokens.PURSE) {
                name(kind);
            } else if (kind == Tokens.OPENING || kind == Tokens.MINUS
                    || kind == Tokens.WARM || kind == Tokens.IF) {
                around(kind, deep);
            } else {
                fail(1);
            }
        }

        private void name(int kind) {
            if (kind == Tokens.PURSE && law != Tokens.FINE) {
                fail(5);
            } else {
                at++;
                emit(kind, 0);
            }
        }

        private void around(int kind, int deep) {
            if (deep >= DEEPEST) {
                fail(3);
                return;
            }
            at++;
            switch (kind) {
                case Tokens.OPENING:
                    sum(deep + 1);
                    take(Tokens.CLOSING);
                    break;
                case Tokens.MINUS:
                    one(deep + 1);
                    emit(Tokens.NEGATED, 0);
                    break;
                case Tokens.WARM:
                    one(deep + 1);
                    emit(Tokens.WARM, 0);
                    break;
                default:
                    choice(deep + 1);
                    break;
            }
        }

        private void choice(int deep) {
            either(deep);
            take(Tokens.THEN);
            int unlessSo = emit(Tokens.IF, 0);
            sum(deep);
            take(Tokens.ELSE);
            int done = emit(Tokens.ELSE, 0);
            leadHere(unlessSo);
            sum(deep);
            take(Tokens.END);
            leadHere(done);
        }

        private void either(int deep) {
            both(deep);
            for (int left = TAPE; left > 0 && tokens.kind(at) == Tokens.OR; left--) {
                at++;
                both(deep);
                emit(Tokens.OR, 0);
            }
        }

        private void both(int deep) {
            ask(deep);
            for (int left = TAPE; left > 0 && tokens.kind(at) == Tokens.AND; left--) {
                at++;
                ask(deep);
                emit(Tokens.AND, 0);
            }
        }

        private void ask(int deep) {
            int kind = tokens.kind(at);
            if (kind == Tokens.NOT) {
                deny(deep);
                return;
            }
            if (kind == Tokens.ODD || kind == Tokens.EVEN) {
                at++;
                sum(deep);
                emit(kind, 0);
                return;
            }
            sum(deep);
            int sign = tokens.kind(at);
            if (sign < Tokens.LESS || sign > Tokens.UNLIKE) {
                fail(1);
                return;
            }
            at++;
            sum(deep);
            emit(sign, 0);
        }

        private void deny(int deep) {
            if (deep >= DEEPEST) {
                fail(3);
                return;
            }
            at++;
            ask(deep + 1);
            emit(Tokens.NOT, 0);
        }
    }
}
