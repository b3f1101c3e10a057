/** Section I and V (WINTERS), promises 1 to 3 and 9 to 21: each sentence that names an edge, within and beyond it. */
public final class EdgesOfTownTest {
    private static final int LEAST = Edge.LEAST;
    private static final int MOST = Edge.MOST;

    public static void main(String[] args) {
        aNewObject();
        woodAndCoins();
        eightHouses();
        lengthsOfStreets();
        streetsOfUnlikeHouses();
        toldAnew();
        actsAtEachFire();
        actsOfHousesNotTold();
        whatIsWrittenDown();
        fetchedFromWhom();
        fetchedAtHeatTwo();
        fetchedToWhom();
        fetchedByStreet();
        quenchedToNothing();
        wardenAtEachFire();
        wardenAtEachHour();
        coinsAtMost();
        hoursFromOneToSixty();
        hoursUpToTheLast();
        theLastHour();
        windIsADraw();
        drawBelowSpreads();
        whoDraws();
        nearIsOfThoseAtFirst();
        lawsAsAllIsThen();
        heatDownToNothing();
        burnsThenIsBurnt();
        howManyCaught();
        eachIsOneStep();
        noSteps();
        thirtySteps();
        latestFirst();
        housesToldSince();
        thirtyNotes();
        notesFromTheEldest();
        bookOfNothing();
        whatOfAHouse();
        nearUpToSeven();
        bellOfTheDay();
        whatOfTheHour();
        Due.finish();
    }

    private static int next(int x) {
        return (x * 397 + 277) % 30497;
    }

    /** "No HOUSES; THE IMAGE is this.", and all that is "at first". */
    private static void aNewObject() {
        CoverFires x = Edge.fresh();
        Due.is("1 hour", x.is(0), 0);
        Due.is("1 bell at hour 0", x.is(1), 1);
        Due.is("1 wind", x.is(2), 0);
        Due.is("1 X", x.is(3), 163);
        Due.is("1 book", x.book(-1, 0), 0);
        Due.is("1 no houses", x.about(0), 0);
        Due.is("1 house 0 is not told", x.of(0, 0), -1);
        Due.is("1 no texts", x.about(1), 0);
        Due.is("1 THE TEXT is none", x.about(2), -1);
        Due.is("1 no steps", x.undo(), -1);
        Due.is("1 no seen", x.about(4), 0);
        Due.is("1 no cooled", x.about(5), 0);
        Due.is("1 no bytes", x.about(6), 0);
        CoverFires y = Edge.full();
        Due.is("1 back to the image of a new object", y.back(), 0);
        Edge.same("1 as a new object", Edge.look(y, false), Edge.look(Edge.fresh(), false));
    }

    /** "WOOD 0 .. 9, COINS 0 .. 9999". */
    private static void woodAndCoins() {
        for (int wood = 0; wood <= 9; wood++) {
            CoverFires x = Edge.fresh();
            Due.is("2 wood " + wood, x.house(wood, 9999), 0);
            Due.is("2 its wood", x.of(0, 0), wood);
            Due.is("2 its coins", x.of(0, 1), 9999);
            Due.is("2 no coins", x.house(wood, 0), 1);
            Due.is("2 none of them", x.of(1, 1), 0);
        }
        Edge.refused("2 wood", -1, (x, wood) -> x.house(wood, 0), -1, 10, LEAST, MOST);
        Edge.refused("2 coins", -1, (x, coins) -> x.house(0, coins), -1, 10000, LEAST, MOST);
        Edge.refused("2 neither", -1, x -> x.house(10, -1));
    }

    /** "HOUSES 0 .. 7 (told one by one)", "or if there are 8". */
    private static void eightHouses() {
        CoverFires x = Edge.fresh();
        for (int h = 0; h < 8; h++) {
            Due.is("2 not told yet: " + h, x.of(h, 2), -1);
            Due.is("2 house " + h, x.house(h, h), h);
            Due.is("2 how many", x.about(0), h + 1);
            Due.is("2 fire at first", x.of(h, 2), 0);
            Due.is("2 heat at first", x.of(h, 3), 0);
            Due.is("2 no street at first", x.parts(), h + 1);
        }
        Edge.still("2 the ninth", Edge::full, y -> y.house(0, 0), -1);
        Edge.still("2 the ninth, of most", Edge::full, y -> y.house(9, 9999), -1);
    }

    /** "1 .. 99 long, or none (told, both ways alike; at first none)". */
    private static void lengthsOfStreets() {
        for (int length = 1; length <= 99; length++) {
            CoverFires x = Edge.houses(2);
            Due.is("3 at first none", x.far(0, 1), -1);
            Due.is("3 length " + length, x.street(1, 0, length), true);
            Due.is("3 there", x.far(0, 1), length);
            Due.is("3 back", x.far(1, 0), length);
            Due.is("3 none", x.street(0, 1, 0), true);
            Due.is("3 none there", x.far(0, 1), -1);
            Due.is("3 none back", x.far(1, 0), -1);
        }
        Edge.refused("3 length", 0, (x, length) -> Edge.bit(x.street(0, 1, length)), -1, 100, LEAST, MOST);
    }

    /** "of two unlike HOUSES"; "False for others (unlike ones)". */
    private static void streetsOfUnlikeHouses() {
        Edge.refused("3 of itself", 0, (x, house) -> Edge.bit(x.street(house, house, 1)), 0, 1, 4, 7);
        Edge.refused("3 of itself, none", 0, (x, house) -> Edge.bit(x.street(house, house, 0)), 0, 4);
        Edge.refused("3 one", 0, (x, one) -> Edge.bit(x.street(one, 0, 1)), -1, 8, LEAST, MOST);
        Edge.refused("3 other", 0, (x, other) -> Edge.bit(x.street(0, other, 1)), -1, 8, LEAST, MOST);
        Edge.refused("3 the first not told", 0, x -> Edge.bit(x.street(x.about(0), 0, 1)));
        Edge.refused("3 not told either", 0, x -> Edge.bit(x.street(0, x.about(0), 0)));
        CoverFires x = Edge.houses(8);
        Due.is("3 the last", x.street(7, 6, 1), true);
        Due.is("3 the first", x.street(0, 7, 1), true);
    }

    /** What is told is so: the same once more changes nothing. */
    private static void toldAnew() {
        Edge.still("3 as it is", Edge::lived, x -> Edge.bit(x.street(1, 0, 5)), 1);
        Edge.still("3 none, as there is none", Edge::lived, x -> Edge.bit(x.street(0, 4, 0)), 1);
        CoverFires x = Edge.row(3);
        x.street(0, 1, 50);
        Due.is("3 just this one", x.far(1, 2), 1);
        Due.is("3 the two together", x.far(0, 2), 51);
        x.street(0, 2, 2);
        Due.is("3 shorter now", x.far(0, 2), 2);
        Due.is("3 by the other way", x.far(0, 1), 3);
        x.street(2, 0, 0);
        Due.is("3 as before", x.far(0, 2), 51);
    }

    /** "LIT: a FIRE that is out is open, HEAT 9. COVERED: an open one is covered." and so on, of FIRES 0 .. 4. */
    private static void actsAtEachFire() {
        for (int fire = 0; fire < 5; fire++) {
            int house = fire;
            Due.is("fire " + fire, Edge.fires().of(house, 2), fire);
            act("9 light", house, 0, 2, x -> Edge.bit(x.light(house)));
            act("10 cover", house, 2, 1, x -> Edge.bit(x.cover(house)));
            act("11 open", house, 1, 2, x -> Edge.bit(x.open(house)));
            act("13 quench", house, 3, 0, x -> Edge.bit(x.quench(house)));
        }
        CoverFires x = Edge.fires();
        x.light(0);
        x.cover(2);
        x.open(1);
        x.quench(3);
        Due.is("9 heat", x.of(0, 3), 9);
        Due.is("10 heat stays", x.of(2, 3), 9);
        Due.is("11 heat stays", x.of(1, 3), 9);
        Due.is("13 heat", x.of(3, 3), 0);
    }

    private static void act(String name, int house, int from, int to, Edge.Call call) {
        if (house != from) {
            Edge.still(name + " at fire " + house, Edge::fires, call, 0);
            return;
        }
        CoverFires x = Edge.fires();
        Due.is(name + " at fire " + house, call.on(x), 1);
        Due.is(name + " to", x.of(house, 2), to);
        Due.is(name + ": coins stay", x.of(house, 1), 30);
        Due.is(name + ": X stays", x.is(3), Edge.fires().is(3));
        Due.is(name + ": no hour passes", x.is(0), 2);
        Edge.takenBack(name, Edge::fires, call);
    }

    private static void actsOfHousesNotTold() {
        int[] bad = {-1, 8, -2, LEAST, MOST};
        Edge.refused("9 light", 0, (x, house) -> Edge.bit(x.light(house)), bad);
        Edge.refused("10 cover", 0, (x, house) -> Edge.bit(x.cover(house)), bad);
        Edge.refused("11 open", 0, (x, house) -> Edge.bit(x.open(house)), bad);
        Edge.refused("12 fetch", -1, (x, house) -> x.fetch(house, 2), bad);
        Edge.refused("12 from", -1, (x, from) -> x.fetch(0, from), bad);
        Edge.refused("13 quench", 0, (x, house) -> Edge.bit(x.quench(house)), bad);
        Edge.refused("14 warden", -2, (x, house) -> x.warden(house), bad);
        Edge.refused("9 the first not told", 0, x -> Edge.bit(x.light(x.about(0))));
        Edge.refused("10 the first not told", 0, x -> Edge.bit(x.cover(x.about(0))));
        Edge.refused("11 the first not told", 0, x -> Edge.bit(x.open(x.about(0))));
        Edge.refused("12 the first not told", -1, x -> x.fetch(x.about(0), 2));
        Edge.refused("12 from the first not told", -1, x -> x.fetch(0, x.about(0)));
        Edge.refused("13 the first not told", 0, x -> Edge.bit(x.quench(x.about(0))));
        Edge.refused("14 the first not told", -2, x -> x.warden(x.about(0)));
        CoverFires x = Edge.houses(8);
        Due.is("9 the last one", x.light(7), true);
        Due.is("14 the last one", x.warden(7), 10);
    }

    /** "0 lit, 1 fetched, 2 went out, 3 caught, 4 burnt, 5 fined"; COVERED, OPENED, QUENCHED are not written down. */
    private static void whatIsWrittenDown() {
        CoverFires x = Edge.houses(1);
        x.light(0);
        note("9 lit", x, 1, 0, 0, 0);
        x.cover(0);
        x.open(0);
        Due.is("10 11 not written down", x.book(-1, 0), 1);
        x.warden(0);
        note("14 fined", x, 2, 0, 0, 5);
        x.hour(9);
        note("15 went out", x, 3, 8, 0, 2);
        Edge.rule(x, "cools 0; spreads 10;");
        x.light(0);
        x.hour(1);
        note("15 caught", x, 5, 9, 0, 3);
        x.hour(1);
        note("15 burnt", x, 6, 10, 0, 4);
        CoverFires y = Edge.fires();
        int before = y.book(-1, 0);
        y.quench(3);
        y.warden(3);
        y.warden(1);
        Due.is("13 14 not written down", y.book(-1, 0), before);
        y.fetch(5, 1);
        note("12 fetched", y, before + 1, 2, 5, 1);
    }

    private static void note(String name, CoverFires x, int count, int hour, int house, int what) {
        Due.is(name + " notes", x.book(-1, 0), count);
        Due.is(name + " hour", x.book(count - 1, 0), hour);
        Due.is(name + " house", x.book(count - 1, 1), house);
        Due.is(name + " what", x.book(count - 1, 2), what);
    }

    /** "whose FIRE is open or covered", be their HEAT what it is. */
    private static void fetchedFromWhom() {
        for (int fire = 0; fire < 5; fire++) {
            int from = fire;
            String name = "12 from one of fire " + fire;
            if (fire != 1 && fire != 2) {
                Edge.still(name, Edge::fires, x -> x.fetch(5, from), -1);
                continue;
            }
            CoverFires x = Edge.fires();
            Due.is(name, x.fetch(5, from), 8);
            Due.is(name + ": heat there", x.of(from, 3), 8);
            Due.is(name + ": its fire stays", x.of(from, 2), fire);
            Due.is(name + ": open here", x.of(5, 2), 2);
            Due.is(name + ": heat here", x.of(5, 3), 5);
            Edge.takenBack(name, Edge::fires, y -> y.fetch(5, from));
        }
        Due.is("12 one that burns has heat", Edge.fires().of(3, 3), 9);
    }

    /** "HEAT 2 at least: HEAT there 1 less". */
    private static void fetchedAtHeatTwo() {
        Due.is("12 heat 2", heatTwo().of(0, 3), 2);
        Due.is("12 at heat 2", heatTwo().fetch(1, 0), 1);
        CoverFires x = heatTwo();
        x.fetch(1, 0);
        Due.is("12 heat 1 is left", x.of(0, 3), 1);
        Due.is("12 it is covered yet", x.of(0, 2), 1);
        Edge.still("12 at heat 1", () -> {
            CoverFires y = heatTwo();
            y.fetch(1, 0);
            return y;
        }, y -> y.fetch(2, 0), -1);
        Edge.still("12 at heat 1 of an open one", () -> {
            CoverFires y = heatTwo();
            y.hour(1);
            y.open(0);
            return y;
        }, y -> y.fetch(1, 0), -1);
        CoverFires z = heatTwo();
        z.open(0);
        Due.is("12 at heat 2 of an open one", z.fetch(2, 0), 1);
    }

    /** HOUSE 0 is covered, HEAT 2; 1 and 2 are out, a STREET leads to each. */
    private static CoverFires heatTwo() {
        CoverFires x = Edge.houses(3);
        x.street(0, 1, 99);
        x.street(2, 0, 1);
        x.light(0);
        x.cover(0);
        x.hour(7);
        return x;
    }

    /** "a FIRE that is out". */
    private static void fetchedToWhom() {
        for (int fire = 1; fire < 5; fire++) {
            int house = fire;
            Edge.still("12 to one of fire " + fire, Edge::fires, x -> x.fetch(house, house == 2 ? 5 : 2), -1);
        }
        Due.is("12 to one that is out", Edge.fires().fetch(0, 2), 8);
        Edge.still("12 from itself", Edge::fires, x -> x.fetch(2, 2), -1);
        Edge.still("12 from itself, out", Edge::fires, x -> x.fetch(0, 0), -1);
        CoverFires lit = Edge.fires();
        lit.light(5);
        lit.cover(2);
        Due.is("12 to one that is open", lit.fetch(2, 5), -1);
    }

    /** "that a STREET leads to": 1 long or 99, not by way of others. */
    private static void fetchedByStreet() {
        Edge.still("12 no street", Edge::firesApart, x -> x.fetch(5, 2), -1);
        Edge.still("12 by way of another", () -> {
            CoverFires x = Edge.row(3);
            x.light(0);
            return x;
        }, x -> x.fetch(2, 0), -1);
        CoverFires x = Edge.firesApart();
        x.street(5, 2, 1);
        Due.is("12 one long", x.fetch(5, 2), 8);
        CoverFires y = Edge.firesApart();
        y.street(2, 5, 99);
        Due.is("12 the other way, 99 long", y.fetch(5, 2), 8);
        CoverFires z = Edge.firesApart();
        z.street(2, 5, 99);
        z.street(5, 2, 0);
        Due.is("12 no street any more", z.fetch(5, 2), -1);
    }

    /** "one that burns is out, HEAT 0": it may be lit, and fetch, again. */
    private static void quenchedToNothing() {
        CoverFires x = Edge.fires();
        Due.is("13 heat ahead", x.of(3, 3), 9);
        x.quench(3);
        Due.is("13 near no more", x.of(5, 7), 0);
        Due.is("13 never twice", x.quench(3), false);
        Due.is("13 fetches", x.fetch(3, 2), 8);
        CoverFires y = Edge.fires();
        y.quench(3);
        Due.is("13 lit again", y.light(3), true);
    }

    /** "if it is BELL and its FIRE is open"; "NONE: none was due; a STEP all the same". */
    private static void wardenAtEachFire() {
        for (int fire = 0; fire < 5; fire++) {
            int house = fire;
            CoverFires x = Edge.fires();
            int notes = x.book(-1, 0);
            int heat = x.of(fire, 3);
            Due.is("14 warden at fire " + fire, x.warden(house), fire == 2 ? 10 : -1);
            Due.is("14 coins then", x.of(house, 1), fire == 2 ? 20 : 30);
            Due.is("14 fire then", x.of(house, 2), fire == 2 ? 1 : fire);
            Due.is("14 heat then", x.of(house, 3), heat);
            Due.is("14 notes then", x.book(-1, 0), fire == 2 ? notes + 1 : notes);
            Edge.takenBack("14 warden at fire " + fire, Edge::fires, y -> y.warden(house));
        }
    }

    /** "BELL: HOUR mod 24 from 20 on or below 6", by the warden. */
    private static void wardenAtEachHour() {
        CoverFires x = Edge.houses(1);
        Edge.rule(x, "cools 0; spreads 0; fine 1;");
        x.light(0);
        for (int hour = 0; hour < 20; hour++) {
            boolean bell = hour < 6;
            Due.is("14 at hour " + hour, x.warden(0), bell ? 1 : -1);
            Due.is("14 fire at hour " + hour, x.of(0, 2), bell ? 1 : 2);
            x.open(0);
            x.hour(1);
        }
        for (int hour = 20; hour < 50; hour++) {
            boolean bell = hour < 30 || hour >= 44;
            Due.is("14 at hour " + hour, x.warden(0) >= 0, bell);
            x.open(0);
            x.hour(1);
        }
    }

    /** "a fine by fine, COINS at most: COINS are less". */
    private static void coinsAtMost() {
        int[][] rows = {{0, 10, 0}, {1, 10, 1}, {9, 10, 9}, {10, 10, 10}, {11, 10, 10}, {9999, 10, 10}, {9999, 9999, 9999},
                {9998, 9999, 9998}, {0, 9999, 0}, {5, 0, 0}, {0, 0, 0}, {5, 1, 1}};
        for (int[] row : rows) {
            CoverFires x = Edge.fresh();
            x.house(0, row[0]);
            Edge.rule(x, "fine " + row[1] + ";");
            x.light(0);
            String name = "14 fine " + row[1] + " of coins " + row[0];
            Due.is(name + ": now", x.of(0, 6), row[1]);
            Due.is(name, x.warden(0), row[2]);
            Due.is(name + ": left", x.of(0, 1), row[0] - row[2]);
            Due.is(name + ": covered", x.of(0, 2), 1);
            note(name, x, 2, 0, 0, 5);
        }
        CoverFires y = Edge.fresh();
        y.house(0, 10);
        y.light(0);
        Due.is("14 without a law", y.warden(0), 10);
        Due.is("14 nothing is left", y.of(0, 1), 0);
    }

    /** "HOURS pass (1 .. 60)"; "NONE for others". */
    private static void hoursFromOneToSixty() {
        for (int n = 1; n <= 60; n++) {
            CoverFires x = Edge.fresh();
            Due.is("15 hours " + n, x.hour(n), 0);
            Due.is("15 hour then", x.is(0), n);
            Due.is("15 steps", x.about(3), Math.min(n, 30));
        }
        Edge.refused("15 hours", -1, (x, n) -> x.hour(n), 0, 61, -1, 62, 10000, LEAST, MOST);
    }

    /** "beyond 9999 (nothing is done then)". */
    private static void hoursUpToTheLast() {
        CoverFires x = Edge.fresh();
        Edge.passTo(x, 9939);
        Due.is("15 just sixty are left", x.hour(60), 0);
        Due.is("15 all of them", x.is(0), 9999);
        Edge.still("15 one too many", () -> before(59), y -> y.hour(60), -1);
        Edge.still("15 one too many of two", () -> before(1), y -> y.hour(2), -1);
        CoverFires z = before(59);
        Due.is("15 just as many", z.hour(59), 0);
        Due.is("15 the last", z.is(0), 9999);
        CoverFires last = before(1);
        Due.is("15 just one", last.hour(1), 0);
        Due.is("15 none more", last.hour(1), -1);
    }

    private static CoverFires before(int hours) {
        CoverFires x = Edge.fresh();
        Edge.passTo(x, 9999 - hours);
        x.house(0, 9);
        x.light(0);
        return x;
    }

    /** "HOUR 0 .. 9999", "(at 9999 none can pass)": for nobody; all else can be done. */
    private static void theLastHour() {
        Edge.still("15 none", Edge::late, x -> x.hour(1), -1);
        CoverFires x = Edge.late();
        Due.is("20 the last hour", x.is(0), 9999);
        Due.is("20 no bell, as 9999 mod 24 is 15", x.is(1), 0);
        Due.is("9 the light at the last hour", x.open(0), true);
        int heat = x.of(0, 3);
        Due.is("22 as it is", x.foretold(60, 0, 1), heat);
        Due.is("22 fire as it is", x.foretold(1, 0, 0), 2);
        Due.is("23 never out", x.out(0), -1);
        x.undo();
        x.undo();
        Due.is("18 back to 9998", x.is(0), 9998);
        Due.is("15 and on again", x.hour(1), 0);
        CoverFires y = Edge.late();
        y.house(1, 1);
        y.light(2);
        note("9 lit at the last hour", y, y.book(-1, 0), 9999, 2, 0);
    }

    /** "WIND is a draw by 10 (X mod 10, X becoming (X * 397 + 277) mod 30497 behind it)". */
    private static void windIsADraw() {
        CoverFires x = Edge.fresh();
        int at = 163;
        int winds = 0;
        for (int i = 0; i < 100; i++) {
            x.hour(1);
            Due.is("15 wind " + i, x.is(2), at % 10);
            winds |= 1 << at % 10;
            at = next(at);
            Due.is("15 X " + i, x.is(3), at);
        }
        Due.is("15 winds 0 .. 9", winds, 1023);
    }

    /** "a draw by 10: below spreads: it burns": spreads 0 never, 10 always, else just below. */
    private static void drawBelowSpreads() {
        for (int spreads = 0; spreads <= 10; spreads++) {
            CoverFires x = Edge.houses(1);
            Edge.rule(x, "cools 0; spreads " + spreads + ";");
            boolean within = spreads == 0;
            boolean beyond = spreads == 10;
            for (int i = 0; i < 60; i++) {
                x.light(0);
                int at = next(x.is(3));
                within |= at % 10 == spreads - 1;
                beyond |= at % 10 == spreads;
                Due.is("15 draw " + at % 10 + " spreads " + spreads, x.hour(1), at % 10 < spreads ? 1 : 0);
                Due.is("15 X behind it", x.is(3), next(at));
                x.quench(0);
            }
            Due.is("15 just below and just not below " + spreads, within && beyond, true);
        }
    }

    /** "if it isn't burnt, and near is above 0 or it is open: a draw". */
    private static void whoDraws() {
        for (int fire : new int[] {0, 1, 2, 4}) {
            Due.is("15 alone, fire " + fire, draws(fire, false), fire == 2 ? 1 : 0);
            Due.is("15 beside one that burns, fire " + fire, draws(fire, true), fire == 4 ? 0 : 1);
        }
        CoverFires x = Edge.row(2);
        Edge.rule(x, "cools 0; spreads 10;");
        x.light(0);
        x.light(1);
        x.hour(1);
        Due.is("15 both burn", x.of(0, 7) + x.of(1, 7), 2);
        int at = x.is(3);
        x.hour(1);
        Due.is("15 those that burn at first draw nothing", x.is(3), next(at));
    }

    /** How many draws the HOUSE of that FIRE brings, the others bringing none. */
    private static int draws(int fire, boolean near) {
        CoverFires x = Edge.firesApart();
        if (fire != 2) {
            x.cover(2);
        }
        if (near) {
            x.street(fire, 3, 1);
        }
        int at = next(x.is(3));
        x.hour(1);
        int draws = 0;
        while (at != x.is(3) && draws < 10) {
            at = next(at);
            draws++;
        }
        return draws;
    }

    /** "near: of those that burn at first, in this HOUR". */
    private static void nearIsOfThoseAtFirst() {
        CoverFires x = Edge.row(3);
        Edge.rule(x, "cools 0; spreads if who = 1 and fire = 2 then 10 else 10 * near end;");
        x.light(1);
        Due.is("15 just the one in the middle", x.hour(1), 1);
        Due.is("15 those beside it: not in this hour", x.of(0, 2) + x.of(2, 2), 0);
        Due.is("15 both, though it is burnt ahead of the one", x.hour(1), 2);
        Due.is("15 the lower", x.of(0, 2), 3);
        Due.is("15 the higher", x.of(2, 2), 3);
        Due.is("15 burnt", x.of(1, 2), 4);
        Due.is("15 none more", x.hour(1), 0);
        CoverFires y = Edge.row(2);
        Edge.rule(y, "cools 0; spreads if who = 0 then 10 else 10 * near end;");
        y.light(0);
        int at = y.is(3);
        Due.is("15 the lower alone", y.hour(1), 1);
        Due.is("15 the higher drew nothing", y.is(3), next(next(at)));
    }

    /** "laws as all is then": lower HOUSES are done, higher ones not yet; WIND is new, the HOUR is not. */
    private static void lawsAsAllIsThen() {
        CoverFires x = Edge.houses(3);
        Edge.rule(x, "cools if who = 1 then warm 0 - 4 + warm 2 - 8 else 3 end; spreads 0;");
        for (int h = 0; h < 3; h++) {
            x.light(h);
        }
        x.hour(1);
        // HEAT of 0 is 6 by then, that of 2 is 9 yet: 2 + 1
        Due.is("15 as all is then", x.of(1, 3), 6);
        Due.is("15 the higher after it", x.of(2, 3), 6);
        CoverFires y = Edge.houses(1);
        Edge.rule(y, "cools 0; spreads if heat = 9 and hour = 0 and wind = 3 and bell = 1 then 10 else 0 end;");
        y.light(0);
        Due.is("15 the hour that passes, the wind that blows in it", y.hour(1), 1);
        CoverFires z = Edge.houses(1);
        Edge.rule(z, "cools 2; spreads if heat = 7 and fire = 2 then 10 else 0 end;");
        z.light(0);
        Due.is("15 cooled already", z.hour(1), 1);
        CoverFires w = Edge.row(2);
        Edge.rule(w, "cools 9; spreads if who = 1 and fire = 0 and heat = 0 and near = 1 then 10 else fire * 9 end;");
        w.light(0);
        w.by(-1);
        Edge.rule(w, "cools 0; spreads 10;");
        w.hour(1);
        w.light(1);
        w.by(0);
        Due.is("15 went out already", w.hour(1), 1);
    }

    /** "HEAT is less by cools (0 at least): at 0 it is out (went out)". */
    private static void heatDownToNothing() {
        for (int cools = 0; cools <= 9; cools++) {
            for (int covered = 0; covered < 2; covered++) {
                CoverFires x = Edge.houses(1);
                Edge.rule(x, "cools " + cools + "; spreads 0;");
                x.light(0);
                if (covered == 1) {
                    x.cover(0);
                }
                int heat = 9;
                for (int i = 0; i < 10 && heat > 0; i++) {
                    x.hour(1);
                    heat = Math.max(0, heat - cools);
                    Due.is("15 heat by " + cools, x.of(0, 3), heat);
                    Due.is("15 fire by " + cools, x.of(0, 2), heat == 0 ? 0 : 2 - covered);
                }
                Due.is("15 went out by " + cools, x.befell(0, 2), cools == 0 ? 0 : 1);
                x.hour(1);
                Due.is("15 just once", x.befell(0, 2), cools == 0 ? 0 : 1);
            }
        }
    }

    /** "one that burns at first is burnt, HEAT 0": it keeps its HEAT until then, and burnt it stays. */
    private static void burnsThenIsBurnt() {
        CoverFires x = Edge.fires();
        x.hour(1);
        Due.is("15 burnt", x.of(3, 2), 4);
        Due.is("15 heat of a burnt one", x.of(3, 3), 0);
        Due.is("15 burnt yet", x.of(4, 2), 4);
        Due.is("15 written down once", x.befell(4, 4), 1);
        Due.is("15 no light", x.light(4), false);
        x.hour(60);
        Due.is("15 for ever", x.of(4, 2), 4);
        Due.is("15 cold for ever", x.of(4, 3), 0);
        CoverFires y = Edge.fires();
        int notes = y.befell(3, 2);
        y.hour(1);
        Due.is("15 one that is burnt didn't go out", y.befell(3, 2), notes);
    }

    /** "how many HOUSES caught in them". */
    private static void howManyCaught() {
        CoverFires x = Edge.houses(8);
        Edge.rule(x, "spreads if who < hour + 1 then 10 else 0 end; cools 0;");
        for (int h = 0; h < 8; h++) {
            x.light(h);
        }
        Due.is("15 one", x.hour(1), 1);
        Due.is("15 two more", x.hour(2), 2);
        Due.is("15 the other five", x.hour(60), 5);
        Due.is("15 all are burnt", x.foretold(1, 0, 2), 8);
        CoverFires y = Edge.houses(8);
        Edge.rule(y, "spreads 10; cools 0;");
        for (int h = 0; h < 8; h++) {
            y.light(h);
        }
        Due.is("15 all eight in one", y.hour(1), 8);
    }

    /** "STEPS: LIT, COVERED, OPENED, FETCHED, QUENCHED, A WARDEN, an HOUR (each), WINTERS". */
    private static void eachIsOneStep() {
        Edge.takenBack("18 light", Edge::lived, x -> Edge.bit(x.light(4)));
        Edge.takenBack("18 cover", Edge::lived, x -> Edge.bit(x.cover(3)));
        Edge.takenBack("18 open", Edge::lived, x -> Edge.bit(x.open(0)));
        Edge.takenBack("18 fetch", Edge::lived, x -> x.fetch(4, 3));
        Edge.takenBack("18 warden", Edge::lived, x -> x.warden(3));
        Edge.takenBack("18 warden for nothing", Edge::lived, x -> x.warden(0));
        Edge.takenBack("18 an hour", Edge::lived, x -> x.hour(1));
        Edge.takenBack("18 an hour of fires", Edge::fires, x -> x.hour(1));
        for (int n : new int[] {1, 8, 39, 40}) {
            Edge.takenBack("18 winters " + n, Edge::lived, x -> x.winters(77, n));
            Edge.takenBack("18 winters of fires " + n, Edge::fires, x -> x.winters(4321, n));
        }
        Edge.takenBack("18 a step at hour 0", Edge::fresh, x -> x.hour(1));
        CoverFires x = Edge.lived();
        int steps = x.about(3);
        x.hour(5);
        Due.is("18 each hour", x.about(3), steps + 5);
        for (int i = 4; i >= 0; i--) {
            Due.is("18 each hour back", x.undo(), steps + i);
        }
        Edge.same("18 five hours back", Edge.look(x, true), Edge.look(Edge.lived(), true));
    }

    /** All else is no STEP. */
    private static void noSteps() {
        CoverFires x = Edge.lived();
        int steps = x.about(3);
        x.house(1, 1);
        x.street(0, 5, 5);
        x.text();
        Due.read(x, "fine 1;");
        x.by(2);
        x.warmth(1, 1);
        x.bid(1, 1);
        x.seen(1, 1, true);
        x.seen(-1, 0, true);
        x.cooled(1, 1);
        x.cooled(-1, 0);
        x.image();
        Due.is("18 no steps", x.about(3), steps);
        CoverFires y = Edge.lived();
        x.undo();
        y.undo();
        Due.is("18 the latest step is the same", x.is(0), y.is(0));
        Due.is("18 THE TEXT stays", x.about(2), 2);
        Due.is("18 houses stay", x.about(0), 6);
        x.winters(0, 1);
        Due.is("18 back", x.back() >= 0, true);
        Due.is("18 back is no step of its own", x.about(3), steps);
    }

    /** "the latest 30 can be taken back"; "NONE: there is none". */
    private static void thirtySteps() {
        for (int steps = 28; steps <= 33; steps++) {
            CoverFires x = Edge.fresh();
            for (int i = 0; i < steps; i++) {
                x.hour(1);
            }
            int kept = Math.min(30, steps);
            Due.is("18 kept of " + steps, x.about(3), kept);
            for (int i = kept - 1; i >= 0; i--) {
                Due.is("18 can be yet", x.undo(), i);
            }
            Due.is("18 none of " + steps, x.undo(), -1);
            Due.is("18 hour of " + steps, x.is(0), steps - kept);
        }
        Edge.still("18 none at all", Edge::fresh, x -> x.undo(), -1);
        CoverFires y = Edge.fresh();
        y.hour(60);
        y.hour(60);
        for (int i = 0; i < 30; i++) {
            y.undo();
        }
        Due.is("18 the latest thirty of 120", y.is(0), 90);
        Due.is("18 not one more", y.undo(), -1);
        Due.is("18 nothing was done", y.is(0), 90);
        y.hour(2);
        Due.is("18 two of them", y.undo(), 1);
    }

    /** "the latest first (FIRES, HEAT, COINS, HOUR, WIND, X, BOOK are as ahead of it". */
    private static void latestFirst() {
        CoverFires x = Edge.row(2);
        x.hour(4);
        x.light(0);
        x.hour(1);
        Due.is("18 wind", x.is(2), windAt(4));
        x.fetch(1, 0);
        x.warden(1);
        x.hour(1);
        x.undo();
        Due.is("18 hour", x.is(0), 5);
        Due.is("18 wind of hour 4", x.is(2), windAt(4));
        Due.is("18 heat", x.of(1, 3), 5);
        x.undo();
        Due.is("18 coins", x.of(1, 1), 20);
        Due.is("18 open", x.of(1, 2), 2);
        x.undo();
        Due.is("18 out", x.of(1, 2), 0);
        Due.is("18 heat there", x.of(0, 3), 6);
        Due.is("18 notes", x.book(-1, 0), 1);
        x.undo();
        Due.is("18 wind of hour 3", x.is(2), windAt(3));
        Due.is("18 heat 9", x.of(0, 3), 9);
    }

    /** WIND of an HOUR of a new object in which nobody drew ahead. */
    private static int windAt(int hour) {
        int x = 163;
        for (int i = 0; i < hour; i++) {
            x = next(x);
        }
        return x % 10;
    }

    /** "HOUSES told since are as told; STREETS stay". */
    private static void housesToldSince() {
        CoverFires x = Edge.houses(1);
        x.light(0);
        x.house(7, 88);
        x.street(1, 0, 3);
        x.light(1);
        x.house(9, 1);
        x.street(1, 2, 4);
        x.fetch(2, 1);
        x.warden(1);
        x.warden(2);
        x.hour(3);
        x.house(0, 3);
        for (int i = 7; i >= 0; i--) {
            Due.is("18 back past houses", x.undo(), i);
        }
        CoverFires y = Edge.houses(1);
        y.house(7, 88);
        y.house(9, 1);
        y.house(0, 3);
        y.street(1, 0, 3);
        y.street(1, 2, 4);
        Edge.same("18 houses and streets told since", Edge.look(x, true), Edge.look(y, true));
        CoverFires first = Edge.fresh();
        first.hour(1);
        first.house(5, 77);
        first.light(0);
        Due.is("18 back", first.undo(), 1);
        Due.is("18 back ahead of any house", first.undo(), 0);
        Due.is("18 the first house stays", first.about(0), 1);
        Due.is("18 its wood", first.of(0, 0), 5);
        Due.is("18 its coins", first.of(0, 1), 77);
        Due.is("18 its fire", first.of(0, 2), 0);
        CoverFires z = Edge.houses(3);
        z.street(0, 1, 2);
        z.light(2);
        z.street(0, 1, 9);
        z.street(0, 2, 1);
        z.undo();
        Due.is("18 streets stay", z.far(1, 2), 10);
    }

    /** "BOOK (the latest 30)". */
    private static void thirtyNotes() {
        CoverFires x = Edge.houses(1);
        Edge.rule(x, "cools 9;");
        for (int notes = 1; notes <= 40; notes++) {
            if (notes % 2 == 1) {
                x.light(0);
            } else {
                x.hour(1);
            }
            int kept = Math.min(30, notes);
            int eldest = notes - kept;
            Due.is("21 notes of " + notes, x.book(-1, 0), kept);
            Due.is("21 hour of the eldest of " + notes, x.book(0, 0), eldest / 2);
            Due.is("21 what of the eldest of " + notes, x.book(0, 2), eldest % 2 == 0 ? 0 : 2);
            Due.is("21 hour of the latest", x.book(kept - 1, 0), (notes - 1) / 2);
            if (notes > 1) {
                Due.is("21 hour of the one ahead of it", x.book(kept - 2, 0), (notes - 2) / 2);
            }
            Due.is("21 none behind it", x.book(kept, 0), -2);
        }
        CoverFires y = Edge.houses(8);
        Edge.rule(y, "cools 0; spreads 10;");
        for (int round = 0; round < 2; round++) {
            for (int h = 0; h < 8; h++) {
                y.quench(h);
                y.light(h);
            }
            y.hour(1);
        }
        Due.is("21 thirty of 32", y.book(-1, 0), 30);
        Due.is("21 the eldest: house 2", y.book(0, 1), 2);
        Due.is("21 was lit", y.book(0, 2), 0);
        Due.is("21 the latest: house 7", y.book(29, 1), 7);
        Due.is("21 caught", y.book(29, 2), 3);
    }

    private static void notesFromTheEldest() {
        CoverFires x = Edge.full();
        for (int i = 1; i < 30; i++) {
            Due.is("21 from the eldest on " + i, x.book(i, 0) >= x.book(i - 1, 0), true);
        }
        Due.is("21 the first", x.book(0, 0) >= 0, true);
        Due.is("21 the thirtieth", x.book(29, 2), 1);
        Edge.still("21 no 31st", Edge::full, y -> y.book(30, 2), -2);
    }

    /** "-2 if there is none such, and for others". */
    private static void bookOfNothing() {
        Edge.refused("21 i", -2, (x, i) -> x.book(i, 0), -2, 30, 31, LEAST, MOST);
        Edge.refused("21 behind the latest", -2, x -> x.book(x.book(-1, 0), 1));
        Edge.refused("21 what", -2, (x, what) -> x.book(0, what), -1, 3, LEAST, MOST);
        Edge.still("21 none at all", Edge::fresh, x -> x.book(0, 0), -2);
        Edge.still("21 how many of none", Edge::fresh, x -> x.book(-1, 0), 0);
        CoverFires x = Edge.lived();
        int last = x.book(-1, 0) - 1;
        for (int what = 0; what < 3; what++) {
            Due.is("21 the first " + what, x.book(0, what) >= 0, true);
            Due.is("21 the last " + what, x.book(last, what) >= 0, true);
        }
    }

    /** "0 WOOD, 1 COINS, 2 its FIRE, 3 HEAT, 4 cools now, 5 spreads now, 6 fine now, 7 near. NONE for others". */
    private static void whatOfAHouse() {
        int[] due = {4, 30, 2, 9, 3, 3, 10, 1};
        for (int what = 0; what < 8; what++) {
            int asked = what;
            Edge.still("19 what " + what, Edge::fires, x -> x.of(2, asked), due[what]);
        }
        for (int what = 0; what < 8; what++) {
            int asked = what;
            Edge.refused("19 of one not told, " + what, -1, (x, house) -> x.of(house, asked), -1, 8, LEAST, MOST);
            Edge.refused("19 of the first not told, " + what, -1, x -> x.of(x.about(0), asked));
        }
        Edge.refused("19 what", -1, (x, what) -> x.of(0, what), -1, 8, LEAST, MOST);
        Due.is("19 the last house", Edge.full().of(7, 0), 7);
    }

    /** near 0 .. 7: just those that burn, just those that a STREET leads to. */
    private static void nearUpToSeven() {
        CoverFires x = Edge.fresh();
        x.house(6, 0);
        for (int h = 1; h < 8; h++) {
            x.house(0, 0);
            x.street(0, h, 50);
            x.light(h);
        }
        Due.is("19 lit ones don't count", x.of(0, 7), 0);
        Edge.rule(x, "spreads 10; cools 0;");
        x.hour(1);
        x.by(-1);
        for (int near = 7; near > 0; near--) {
            Due.is("19 near " + near, x.of(0, 7), near);
            Due.is("19 an out one: wood by 4 alone", x.of(0, 5), 1);
            x.light(0);
            Due.is("19 an open one: wood by 2 and near", x.of(0, 5), 3 + near);
            x.cover(0);
            Due.is("19 a covered one: wood by 4 alone", x.of(0, 5), 1);
            x.undo();
            x.undo();
            if (near % 2 == 0) {
                x.quench(near);
            } else {
                x.street(near, 0, 0);
            }
        }
        Due.is("19 none near", x.of(0, 7), 0);
    }

    /** "BELL: HOUR mod 24 from 20 on or below 6 (1, 0)". */
    private static void bellOfTheDay() {
        CoverFires x = Edge.fresh();
        for (int hour = 0; hour < 75; hour++) {
            int ofDay = hour - hour / 24 * 24;
            Due.is("20 hour", x.is(0), hour);
            Due.is("20 bell at " + hour, x.is(1), ofDay == 19 || ofDay == 6 || ofDay > 6 && ofDay < 19 ? 0 : 1);
            x.hour(1);
        }
    }

    private static void whatOfTheHour() {
        Edge.refused("20 what", -2, (x, what) -> x.is(what), -1, 4, 5, LEAST, MOST);
        for (int what = 0; what < 4; what++) {
            int asked = what;
            Edge.onlyAsks("20 what " + what, x -> x.is(asked));
        }
    }
}
