import java.util.ArrayDeque;
import java.util.ArrayList;
import java.util.Arrays;
import java.util.Deque;
import java.util.HashSet;
import java.util.List;
import java.util.Set;

/** A second writing of the document, slow and plain, to hold the class against. */
final class PlainTown {
    static final int NONE = -1;
    static final int NEVER = 1000000;

    static final class House {
        int wood;
        int coins;
        int fire;
        int heat;

        House copy() {
            House h = new House();
            h.wood = wood;
            h.coins = coins;
            h.fire = fire;
            h.heat = heat;
            return h;
        }
    }

    /** All that a STEP takes back. */
    static final class Scene {
        List<House> houses = new ArrayList<>();
        int hour;
        int wind;
        int x = 163;
        List<int[]> book = new ArrayList<>();

        Scene copy() {
            Scene s = new Scene();
            for (House h : houses) {
                s.houses.add(h.copy());
            }
            s.hour = hour;
            s.wind = wind;
            s.x = x;
            s.book.addAll(book);
            return s;
        }

        boolean told(int h) {
            return h >= 0 && h < houses.size();
        }

        boolean bell() {
            return hour % 24 >= 20 || hour % 24 <= 5;
        }

        int draw() {
            int drawn = x % 10;
            x = (x * 397 + 277) % 30497;
            return drawn;
        }

        void write(int house, int what) {
            book.add(new int[] {hour, house, what});
            if (book.size() > 30) {
                book.remove(0);
            }
        }
    }

    /** All that an image keeps. */
    static final class All {
        Scene scene = new Scene();
        int[][] street = new int[8][8];
        List<PlainText> texts = new ArrayList<>();
        PlainText ruling;
        int rulingNumber = NONE;
        Deque<Scene> steps = new ArrayDeque<>();
        int[] warmth = new int[24];
        int[] bids = new int[8];
        List<int[]> seen = new ArrayList<>();
        List<int[]> cooled = new ArrayList<>();

        All copy() {
            All a = new All();
            a.scene = scene.copy();
            for (int i = 0; i < 8; i++) {
                a.street[i] = street[i].clone();
            }
            a.texts.addAll(texts);
            a.ruling = ruling;
            a.rulingNumber = rulingNumber;
            for (Scene s : steps) {
                a.steps.addLast(s.copy());
            }
            a.warmth = warmth.clone();
            a.bids = bids.clone();
            a.seen.addAll(seen);
            a.cooled.addAll(cooled);
            return a;
        }
    }

    private All all = new All();
    private All image = new All();
    private final StringBuilder tape = new StringBuilder();
    private boolean hasRead = false;
    private int fault = 0;
    private int place = NONE;

    /** The answer of a call; a boolean counts 1 or 0. */
    int call(String name, int... a) {
        switch (name) {
            case "house": return house(a[0], a[1]);
            case "street": return street(a[0], a[1], a[2]) ? 1 : 0;
            case "feed": return feed(a);
            case "end": return end(a[0]);
            case "text": return text();
            case "fault": return !hasRead ? NONE : a[0] == 0 ? fault : a[0] == 1 ? place : NONE;
            case "by": return by(a[0]) ? 1 : 0;
            case "light": return act("light", a[0], NONE) ? 1 : 0;
            case "cover": return act("cover", a[0], NONE) ? 1 : 0;
            case "open": return act("open", a[0], NONE) ? 1 : 0;
            case "quench": return act("quench", a[0], NONE) ? 1 : 0;
            case "fetch": return act("fetch", a[0], a[1]) ? all.scene.houses.get(a[1]).heat : NONE;
            case "warden": return warden(a[0]);
            case "hour": return hour(a[0]);
            case "played": return played(a[0]);
            case "winters": return winters(a[0], a[1]);
            case "undo": return undo();
            case "image": image = all.copy(); return all.scene.hour;
            case "back": all = image.copy(); return all.scene.hour;
            default: return ask(name, a);
        }
    }

    private int ask(String name, int... a) {
        switch (name) {
            case "of": return of(a[0], a[1]);
            case "is": return is(a[0]);
            case "book": return book(a[0], a[1]);
            case "foretold": return foretold(a[0], a[1], a[2]);
            case "out": return out(a[0]);
            case "far": return far(a[0], a[1]);
            case "round": return round(a[0]);
            case "again": return again(a[0]);
            case "warmth": return warmth(a[0], a[1]) ? 1 : 0;
            case "ring": return ring(a[0]);
            case "dawn": return dawn(a[0], a[1]);
            case "chain": return chain(a[0]);
            case "stone": return stone(a[0], a[1] != 0);
            case "seen": return seen(a[0], a[1], a[2]);
            case "began": return began(a[0]);
            case "whom": return whom();
            case "bid": return bid(a[0], a[1]) ? 1 : 0;
            case "leave": return leave(a[0], a[1] != 0);
            case "cooled": return cooled(a[0], a[1]);
            case "whose": return whose();
            case "befell": return befell(a[0], a[1]);
            case "parts": return groups(count()).size();
            case "warmest": return warmest();
            case "leaves": return bitsOf(h -> degree(h) == 1);
            case "kept": return bitsOf(h -> fire(h) == 1 || fire(h) == 2);
            case "about": return about(a[0]);
            default: throw new IllegalArgumentException(name);
        }
    }

    private interface Test {
        boolean of(int h);
    }

    private int bitsOf(Test test) {
        int bits = 0;
        for (int h = 0; h < count(); h++) {
            if (test.of(h)) {
                bits += 1 << h;
            }
        }
        return bits;
    }

    private int count() {
        return all.scene.houses.size();
    }

    private int fire(int h) {
        return all.scene.houses.get(h).fire;
    }

    private int heat(int h) {
        return all.scene.houses.get(h).heat;
    }

    private boolean told(int h) {
        return all.scene.told(h);
    }

    private int house(int wood, int coins) {
        if (wood < 0 || wood > 9 || coins < 0 || coins > 9999 || count() == 8) {
            return NONE;
        }
        House h = new House();
        h.wood = wood;
        h.coins = coins;
        all.scene.houses.add(h);
        return count() - 1;
    }

    private boolean street(int one, int other, int length) {
        if (!told(one) || !told(other) || one == other || length < 0 || length > 99) {
            return false;
        }
        all.street[one][other] = length;
        all.street[other][one] = length;
        return true;
    }

    private int feed(int... a) {
        if (tape.length() + 20 > 300) {
            return NONE;
        }
        for (int word : a) {
            for (int i = 3; i >= 0; i--) {
                tape.append((char) (word >>> 8 * i & 0xff));
            }
        }
        return tape.length();
    }

    private int end(int n) {
        if (n < 0 || n > tape.length()) {
            return NONE;
        }
        tape.setLength(n);
        return n;
    }

    private int text() {
        if (all.texts.size() == 4) {
            return NONE;
        }
        String read = tape.toString();
        tape.setLength(0);
        hasRead = true;
        fault = 0;
        place = NONE;
        try {
            all.texts.add(new PlainText(read));
            return all.texts.size() - 1;
        } catch (PlainText.Fault f) {
            fault = f.what;
            place = f.place;
            return NONE;
        }
    }

    private boolean by(int text) {
        if (text < NONE || text >= all.texts.size()) {
            return false;
        }
        all.rulingNumber = text;
        all.ruling = text == NONE ? null : all.texts.get(text);
        return true;
    }

    private static int near(All all, Set<Integer> burning, int house) {
        int near = 0;
        for (int h : burning) {
            near += all.street[house][h] > 0 ? 1 : 0;
        }
        return near;
    }

    private static Set<Integer> burning(Scene s) {
        Set<Integer> burning = new HashSet<>();
        for (int h = 0; h < s.houses.size(); h++) {
            if (s.houses.get(h).fire == 3) {
                burning.add(h);
            }
        }
        return burning;
    }

    private static int rate(All all, PlainText rule, Scene s, String law, int house, int near) {
        House h = s.houses.get(house);
        long value;
        if (rule != null && rule.laws.containsKey(law)) {
            value = rule.laws.get(law).at(new PlainText.View() {
                public long name(String name) {
                    switch (name) {
                        case "hour": return s.hour;
                        case "bell": return s.bell() ? 1 : 0;
                        case "wind": return s.wind;
                        case "who": return house;
                        case "wood": return h.wood;
                        case "fire": return h.fire;
                        case "heat": return h.heat;
                        case "near": return near;
                        default: return h.coins;
                    }
                }

                public long warm(long other) {
                    return other >= 0 && other < s.houses.size() ? s.houses.get((int) other).heat : 0;
                }
            });
        } else if (law.equals("cools")) {
            value = h.fire == 2 ? 3 : 1;
        } else if (law.equals("spreads")) {
            value = h.fire == 2 ? h.wood / 2 + near : h.wood / 4;
        } else {
            value = 10;
        }
        long most = law.equals("cools") ? 9 : law.equals("spreads") ? 10 : 9999;
        return (int) (value < 0 ? 0 : value > most ? most : value);
    }

    private static int pass(All all, Scene s) {
        s.wind = s.draw();
        Set<Integer> burning = burning(s);
        int caught = 0;
        for (int i = 0; i < s.houses.size(); i++) {
            House h = s.houses.get(i);
            int near = near(all, burning, i);
            if (burning.contains(i)) {
                h.fire = 4;
                h.heat = 0;
                s.write(i, 4);
            } else if (h.fire == 1 || h.fire == 2) {
                h.heat = Math.max(0, h.heat - rate(all, all.ruling, s, "cools", i, near));
                if (h.heat == 0) {
                    h.fire = 0;
                    s.write(i, 2);
                }
            }
            if (h.fire != 4 && (near > 0 || h.fire == 2)) {
                int drawn = s.draw();
                if (drawn < rate(all, all.ruling, s, "spreads", i, near)) {
                    h.fire = 3;
                    s.write(i, 3);
                    caught++;
                }
            }
        }
        s.hour++;
        return caught;
    }

    private void step() {
        all.steps.addLast(all.scene.copy());
        if (all.steps.size() > 30) {
            all.steps.removeFirst();
        }
    }

    private boolean canAct(String act, int house, int from) {
        if (!told(house)) {
            return false;
        }
        switch (act) {
            case "light": return fire(house) == 0;
            case "cover": return fire(house) == 2;
            case "open": return fire(house) == 1;
            case "quench": return fire(house) == 3;
            default: return fire(house) == 0 && told(from) && all.street[house][from] > 0
                    && (fire(from) == 1 || fire(from) == 2) && heat(from) >= 2;
        }
    }

    private void doAct(String act, int house, int from) {
        House h = all.scene.houses.get(house);
        switch (act) {
            case "light":
                h.fire = 2;
                h.heat = 9;
                all.scene.write(house, 0);
                break;
            case "cover":
                h.fire = 1;
                break;
            case "open":
                h.fire = 2;
                break;
            case "quench":
                h.fire = 0;
                h.heat = 0;
                break;
            default:
                all.scene.houses.get(from).heat--;
                h.fire = 2;
                h.heat = 5;
                all.scene.write(house, 1);
                break;
        }
    }

    private boolean act(String act, int house, int from) {
        if (!canAct(act, house, from)) {
            return false;
        }
        step();
        doAct(act, house, from);
        return true;
    }

    private int visit(int house) {
        House h = all.scene.houses.get(house);
        if (!all.scene.bell() || h.fire != 2) {
            return NONE;
        }
        int near = near(all, burning(all.scene), house);
        int fine = Math.min(h.coins, rate(all, all.ruling, all.scene, "fine", house, near));
        h.coins -= fine;
        h.fire = 1;
        all.scene.write(house, 5);
        return fine;
    }

    private int warden(int house) {
        if (!told(house)) {
            return -2;
        }
        step();
        return visit(house);
    }

    private int hour(int n) {
        if (n < 1 || n > 60 || all.scene.hour + n > 9999) {
            return NONE;
        }
        int caught = 0;
        for (int i = 0; i < n; i++) {
            step();
            caught += pass(all, all.scene);
        }
        return caught;
    }

    private int played(int text) {
        if (text < 0 || text >= all.texts.size()) {
            return -2;
        }
        List<PlainText.Clause> clauses = all.texts.get(text).clauses;
        for (int i = 0; i < clauses.size(); i++) {
            if (!play(clauses.get(i))) {
                return i;
            }
        }
        return NONE;
    }

    private boolean play(PlainText.Clause c) {
        int[] n = c.numbers;
        switch (c.word) {
            case "cools":
            case "spreads":
            case "fine":
                return true;
            case "house": return house(n[0], n[1]) != NONE;
            case "street": return street(n[0], n[1], n[2]);
            case "warden": return warden(n[0]) != -2;
            case "fetch": return act("fetch", n[0], n[1]);
            case "hour":
                for (int i = 0; i < n[0]; i++) {
                    if (hour(1) == NONE) {
                        return false;
                    }
                }
                return true;
            default: return act(c.word, n[0], NONE);
        }
    }

    private int winters(int seed, int n) {
        if (seed < 0 || seed > 9999 || n < 1 || n > 40) {
            return NONE;
        }
        step();
        Scene s = all.scene;
        s.x = seed * 2 + 163;
        for (int i = 0; i < n; i++) {
            int x = s.x;
            s.draw();
            if (x % 8 == 7) {
                if (s.hour < 9999) {
                    pass(all, s);
                }
            } else if (count() > 0) {
                int house = x % count();
                if (x % 8 == 6) {
                    visit(house);
                } else {
                    String act = List.of("light", "light", "cover", "open", "fetch", "quench").get(x % 8);
                    int from = x / 8 % count();
                    if (canAct(act, house, from)) {
                        doAct(act, house, from);
                    }
                }
            }
        }
        return s.hour;
    }

    private int undo() {
        if (all.steps.isEmpty()) {
            return NONE;
        }
        Scene before = all.steps.removeLast();
        for (int h = before.houses.size(); h < count(); h++) {
            before.houses.add(all.scene.houses.get(h).copy());
        }
        all.scene = before;
        return all.steps.size();
    }

    private int of(int house, int what) {
        if (!told(house) || what < 0 || what > 7) {
            return NONE;
        }
        House h = all.scene.houses.get(house);
        int near = near(all, burning(all.scene), house);
        switch (what) {
            case 0: return h.wood;
            case 1: return h.coins;
            case 2: return h.fire;
            case 3: return h.heat;
            case 4: return rate(all, all.ruling, all.scene, "cools", house, near);
            case 5: return rate(all, all.ruling, all.scene, "spreads", house, near);
            case 6: return rate(all, all.ruling, all.scene, "fine", house, near);
            default: return near;
        }
    }

    private int is(int what) {
        Scene s = all.scene;
        return what == 0 ? s.hour : what == 1 ? (s.bell() ? 1 : 0) : what == 2 ? s.wind : what == 3 ? s.x : -2;
    }

    private int book(int i, int what) {
        List<int[]> book = all.scene.book;
        if (i == NONE) {
            return book.size();
        }
        return i < 0 || i >= book.size() || what < 0 || what > 2 ? -2 : book.get(i)[what];
    }

    private int foretold(int n, int house, int what) {
        if (n < 1 || n > 60 || what < 0 || what > 2 || what != 2 && !told(house)) {
            return NONE;
        }
        Scene s = all.scene.copy();
        for (int i = 0; i < n && s.hour < 9999; i++) {
            pass(all, s);
        }
        if (what == 2) {
            return (int) s.houses.stream().filter(h -> h.fire == 4).count();
        }
        return what == 0 ? s.houses.get(house).fire : s.houses.get(house).heat;
    }

    private int out(int house) {
        if (!told(house)) {
            return NONE;
        }
        Scene s = all.scene.copy();
        int hours = 0;
        while (s.houses.get(house).fire != 0) {
            if (hours == 60 || s.hour == 9999) {
                return NONE;
            }
            pass(all, s);
            hours++;
        }
        return hours;
    }

    private int[] lengthsFrom(int start, boolean hops) {
        int[] far = new int[8];
        Arrays.fill(far, NEVER);
        far[start] = 0;
        for (int i = 0; i < 8; i++) {
            for (int a = 0; a < 8; a++) {
                for (int b = 0; b < 8; b++) {
                    if (all.street[a][b] > 0) {
                        far[b] = Math.min(far[b], far[a] + (hops ? 1 : all.street[a][b]));
                    }
                }
            }
        }
        return far;
    }

    private int far(int one, int other) {
        if (!told(one) || !told(other)) {
            return NONE;
        }
        int far = lengthsFrom(one, false)[other];
        return far >= NEVER ? NONE : far;
    }

    private int degree(int h) {
        return (int) Arrays.stream(all.street[h]).filter(l -> l > 0).count();
    }

    /** How many are in each part of the first n HOUSES. */
    private List<Integer> groups(int n) {
        return groupsOf((1 << n) - 1);
    }

    private List<Integer> groupsOf(int set) {
        List<Integer> sizes = new ArrayList<>();
        Set<Integer> done = new HashSet<>();
        for (int h = 0; h < 8; h++) {
            if ((set >> h & 1) == 1 && !done.contains(h)) {
                int before = done.size();
                visitAll(h, set, done);
                sizes.add(done.size() - before);
            }
        }
        return sizes;
    }

    private void visitAll(int h, int set, Set<Integer> done) {
        if ((set >> h & 1) == 0 || !done.add(h)) {
            return;
        }
        for (int other = 0; other < 8; other++) {
            if (all.street[h][other] > 0) {
                visitAll(other, set, done);
            }
        }
    }

    private List<Integer> oddOnes() {
        List<Integer> odd = new ArrayList<>();
        for (int h = 0; h < count(); h++) {
            if (degree(h) % 2 == 1) {
                odd.add(h);
            }
        }
        return odd;
    }

    private boolean joined() {
        return groupsOf(bitsOf(h -> degree(h) > 0)).size() <= 1;
    }

    /** All ways to pair, the lowest partners first; the first of the shortest stays. */
    private void pairings(List<Integer> left, int[] with, int sum, int[] best, int[] least) {
        if (left.isEmpty()) {
            if (sum < least[0]) {
                least[0] = sum;
                System.arraycopy(with, 0, best, 0, 8);
            }
            return;
        }
        int low = left.get(0);
        for (int i = 1; i < left.size(); i++) {
            int other = left.get(i);
            List<Integer> rest = new ArrayList<>(left);
            rest.remove(Integer.valueOf(low));
            rest.remove(Integer.valueOf(other));
            with[low] = other;
            with[other] = low;
            pairings(rest, with, sum + lengthsFrom(low, false)[other], best, least);
        }
    }

    private int round(int what) {
        if (what == 1) {
            return bitsOf(h -> degree(h) % 2 == 1);
        }
        if (what != 0 || !joined()) {
            return NONE;
        }
        int[] least = {NEVER};
        pairings(oddOnes(), new int[8], 0, new int[8], least);
        int sum = 0;
        for (int a = 0; a < 8; a++) {
            for (int b = a + 1; b < 8; b++) {
                sum += all.street[a][b];
            }
        }
        return sum + least[0];
    }

    private int again(int house) {
        if (!told(house) || degree(house) % 2 == 0 || !joined()) {
            return NONE;
        }
        int[] best = new int[8];
        pairings(oddOnes(), new int[8], 0, best, new int[] {NEVER});
        return best[house];
    }

    private boolean warmth(int h, int warmth) {
        if (h < 0 || h > 23 || warmth < -99 || warmth > 99) {
            return false;
        }
        all.warmth[h] = warmth;
        return true;
    }

    private int ring(int what) {
        if (what < 0 || what > 2) {
            return -10000;
        }
        int[] best = null;
        for (int m = 1; m <= 23; m++) {
            for (int a = 0; a < 24; a++) {
                int sum = 0;
                for (int i = 0; i < m; i++) {
                    sum += all.warmth[(a + i) % 24];
                }
                if (best == null || sum < best[2]) {
                    best = new int[] {a, m, sum};
                }
            }
        }
        return best[what];
    }

    private boolean gives(int h) {
        return (fire(h) == 1 || fire(h) == 2) && heat(h) >= 2;
    }

    private int dawn(int g, int house) {
        if (g < 1 || g > 8 || house != NONE && (!told(house) || fire(house) != 0)) {
            return -2;
        }
        int[] best = new int[9];
        best[8] = -1;
        give(0, 0, g, new int[8], new int[8], best);
        return house == NONE ? best[8] : best[house];
    }

    private void give(int h, int got, int g, int[] given, int[] by, int[] best) {
        if (h == count()) {
            if (got > best[8]) {
                System.arraycopy(by, 0, best, 0, 8);
                best[8] = got;
            }
            return;
        }
        for (int giver = 0; giver < count() && fire(h) == 0; giver++) {
            if (all.street[h][giver] > 0 && gives(giver) && given[giver] < g) {
                given[giver]++;
                by[h] = giver;
                give(h + 1, got + 1, g, given, by, best);
                given[giver]--;
            }
        }
        by[h] = NONE;
        give(h + 1, got, g, given, by, best);
    }

    private int chain(int house) {
        if (!told(house) || fire(house) != 0) {
            return NONE;
        }
        Set<Integer> have = new HashSet<>();
        for (int h = 0; h < count(); h++) {
            if (gives(h)) {
                have.add(h);
            }
        }
        for (int hours = 1; hours <= 10; hours++) {
            Set<Integer> next = new HashSet<>(have);
            for (int h : have) {
                for (int other = 0; other < count(); other++) {
                    if (all.street[h][other] > 0 && fire(other) == 0) {
                        next.add(other);
                    }
                }
            }
            have = next;
            if (have.contains(house)) {
                return hours;
            }
        }
        return NONE;
    }

    private int stone(int n, boolean joined) {
        if (n < 0 || n > 8) {
            return NONE;
        }
        int whole = (1 << count()) - 1;
        int best = -1;
        int bestMost = 0;
        for (int stones = 0; stones <= n; stones++) {
            for (int set = 0; set <= whole; set++) {
                if (Integer.bitCount(set) == stones) {
                    int most = groupsOf(whole - set).stream().mapToInt(i -> i).max().orElse(0);
                    if (best < 0 || most < bestMost) {
                        best = set;
                        bestMost = most;
                    }
                }
            }
        }
        return joined ? bestMost : best;
    }

    private int seen(int house, int hour, int caught) {
        if (house == NONE) {
            all.seen.clear();
            return 0;
        }
        if (!told(house) || hour < 0 || hour > 99 || all.seen.size() == 8) {
            return -2;
        }
        all.seen.add(new int[] {house, hour, caught});
        return all.seen.size();
    }

    private boolean fits(int start, int hour) {
        int[] hops = lengthsFrom(start, true);
        for (int[] s : all.seen) {
            int at = hops[s[0]] + hour;
            if (s[2] != 0 ? at != s[1] : at <= s[1]) {
                return false;
            }
        }
        return true;
    }

    private int began(int house) {
        if (house == NONE) {
            return bitsOf(h -> began(h) > 0);
        }
        if (!told(house)) {
            return -2;
        }
        int hours = 0;
        for (int t = 0; t < 100; t++) {
            hours += fits(house, t) ? 1 : 0;
        }
        return hours;
    }

    private int whom() {
        int best = NONE;
        int most = 0;
        List<Set<Integer>> answers = new ArrayList<>();
        for (int h = 0; h < count(); h++) {
            answers.add(new HashSet<>());
        }
        for (int start = 0; start < count(); start++) {
            int[] hops = lengthsFrom(start, true);
            for (int t = 0; t < 100; t++) {
                if (fits(start, t)) {
                    for (int h = 0; h < count(); h++) {
                        answers.get(h).add(Math.min(NEVER, hops[h] + t));
                    }
                }
            }
        }
        for (int h = 0; h < count(); h++) {
            if (answers.get(h).size() > most) {
                most = answers.get(h).size();
                best = h;
            }
        }
        return best;
    }

    private boolean bid(int house, int bid) {
        if (!told(house) || bid < 0 || bid > 99) {
            return false;
        }
        all.bids[house] = bid;
        return true;
    }

    private int leave(int k, boolean paid) {
        if (k < 0 || k > 8) {
            return NONE;
        }
        List<Integer> order = new ArrayList<>();
        for (int h = 0; h < count(); h++) {
            order.add(h);
        }
        order.sort((a, b) -> all.bids[b] - all.bids[a]);
        int bits = 0;
        for (int i = 0; i < k && i < count(); i++) {
            bits += 1 << order.get(i);
        }
        return !paid ? bits : k < count() ? all.bids[order.get(k)] : 0;
    }

    private int cooled(int house, int by) {
        if (house == NONE) {
            all.cooled.clear();
            return 0;
        }
        if (!told(house) || by < 0 || by > 9 || all.cooled.size() == 8) {
            return -2;
        }
        all.cooled.add(new int[] {house, by});
        return all.cooled.size();
    }

    private int whose() {
        int bits = 0;
        for (int t = 0; t < all.texts.size(); t++) {
            boolean so = true;
            for (int[] c : all.cooled) {
                int near = near(all, burning(all.scene), c[0]);
                so &= rate(all, all.texts.get(t), all.scene, "cools", c[0], near) == c[1];
            }
            bits += so ? 1 << t : 0;
        }
        return bits;
    }

    private int befell(int house, int what) {
        if (house != NONE && !told(house) || what < 0 || what > 5) {
            return -2;
        }
        return (int) all.scene.book.stream().filter(n -> n[2] == what && (house == NONE || n[1] == house)).count();
    }

    private int warmest() {
        int best = NONE;
        for (int h = count() - 1; h >= 0; h--) {
            if (heat(h) > 0 && (best == NONE || heat(h) >= heat(best))) {
                best = h;
            }
        }
        return best;
    }

    private int about(int what) {
        switch (what) {
            case 0: return count();
            case 1: return all.texts.size();
            case 2: return all.rulingNumber;
            case 3: return all.steps.size();
            case 4: return all.seen.size();
            case 5: return all.cooled.size();
            case 6: return tape.length();
            default: return -2;
        }
    }
}
