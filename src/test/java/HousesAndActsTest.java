/** Promises 1 to 3 and 9 to 21: houses, streets, what is done, what was written down. */
public final class HousesAndActsTest {
    private static final int LEAST = Integer.MIN_VALUE;
    private static final int MOST = Integer.MAX_VALUE;

    public static void main(String[] args) {
        newObject();
        houses();
        streets();
        lighting();
        covering();
        opening();
        fetching();
        quenching();
        wardens();
        fineOfNothing();
        hours();
        lastHour();
        burningOneByOne();
        outAndCaughtAtOnce();
        scripts();
        scriptsThatEnd();
        scriptAtTheLastHour();
        winters();
        wintersOfEverything();
        undoing();
        undoOfHousesAndStreets();
        undoOfTheBook();
        ofAHouse();
        ofTheHour();
        book();
        Due.finish();
    }

    private static CoverFires row(int houses, int wood) {
        CoverFires x = new CoverFires();
        for (int h = 0; h < houses; h++) {
            x.house(wood, 20);
            if (h > 0) {
                x.street(h - 1, h, 1);
            }
        }
        return x;
    }

    /** A text that rules; its number. */
    private static int rule(CoverFires x, String text) {
        int number = Due.read(x, text);
        Due.is("by " + text, x.by(number), true);
        return number;
    }

    private static void newObject() {
        CoverFires x = new CoverFires();
        int[] at = {0, 0, -1, 0, 0, 0, 0};
        for (int what = 0; what < 7; what++) {
            Due.is("1 about " + what, x.about(what), at[what]);
        }
        Due.is("1 hour", x.is(0), 0);
        Due.is("1 bell", x.is(1), 1);
        Due.is("1 wind", x.is(2), 0);
        Due.is("1 X", x.is(3), 163);
        Due.is("1 book", x.book(-1, 0), 0);
        x.house(1, 1);
        x.light(0);
        x.hour(3);
        Due.is("1 back to the new object", x.back(), 0);
        Due.is("1 no houses again", x.about(0), 0);
        Due.is("1 no steps again", x.about(3), 0);
        Due.is("1 X again", x.is(3), 163);
    }

    private static void houses() {
        CoverFires x = new CoverFires();
        Due.is("2 wood -1", x.house(-1, 0), -1);
        Due.is("2 wood 10", x.house(10, 0), -1);
        Due.is("2 coins -1", x.house(0, -1), -1);
        Due.is("2 coins 10000", x.house(0, 10000), -1);
        Due.is("2 least", x.house(LEAST, MOST), -1);
        Due.is("2 first", x.house(9, 9999), 0);
        Due.is("2 second", x.house(0, 0), 1);
        for (int h = 2; h < 8; h++) {
            Due.is("2 house " + h, x.house(1, 1), h);
        }
        Due.is("2 the ninth", x.house(1, 1), -1);
        Due.is("2 wood", x.of(0, 0), 9);
        Due.is("2 coins", x.of(0, 1), 9999);
        Due.is("2 fire", x.of(0, 2), 0);
        Due.is("2 heat", x.of(0, 3), 0);
    }

    private static void streets() {
        CoverFires x = new CoverFires();
        Due.is("3 none told", x.street(0, 1, 1), false);
        x.house(1, 1);
        x.house(1, 1);
        Due.is("3 longest", x.street(0, 1, 99), true);
        Due.is("3 too long", x.street(0, 1, 100), false);
        Due.is("3 below 0", x.street(0, 1, -1), false);
        Due.is("3 like ones", x.street(1, 1, 1), false);
        Due.is("3 not told", x.street(0, 2, 1), false);
        Due.is("3 below", x.street(-1, 0, 1), false);
        Due.is("3 far", x.far(1, 0), 99);
        Due.is("3 told anew, the other way", x.street(1, 0, 7), true);
        Due.is("3 far anew", x.far(0, 1), 7);
        Due.is("3 none", x.street(1, 0, 0), true);
        Due.is("3 no far", x.far(0, 1), -1);
        Due.is("3 none at all: none again", x.street(0, 1, 0), true);
    }

    private static void lighting() {
        CoverFires x = row(2, 0);
        Due.is("9 lit", x.light(0), true);
        Due.is("9 open", x.of(0, 2), 2);
        Due.is("9 heat", x.of(0, 3), 9);
        Due.is("9 written down", x.book(0, 2), 0);
        Due.is("9 again", x.light(0), false);
        Due.is("9 not told", x.light(2), false);
        Due.is("9 NONE", x.light(-1), false);
        Due.is("9 steps", x.about(3), 1);
        x.cover(0);
        Due.is("9 covered", x.light(0), false);
    }

    private static void covering() {
        CoverFires x = row(1, 0);
        Due.is("10 out", x.cover(0), false);
        x.light(0);
        Due.is("10 open", x.cover(0), true);
        Due.is("10 fire", x.of(0, 2), 1);
        Due.is("10 heat stays", x.of(0, 3), 9);
        Due.is("10 covered", x.cover(0), false);
        Due.is("10 not told", x.cover(1), false);
        Due.is("10 least", x.cover(LEAST), false);
        Due.is("10 book", x.book(-1, 0), 1);
        Due.is("10 steps", x.about(3), 2);
    }

    private static void opening() {
        CoverFires x = row(1, 0);
        Due.is("11 out", x.open(0), false);
        x.light(0);
        Due.is("11 open", x.open(0), false);
        x.cover(0);
        Due.is("11 covered", x.open(0), true);
        Due.is("11 fire", x.of(0, 2), 2);
        Due.is("11 heat", x.of(0, 3), 9);
        Due.is("11 not told", x.open(1), false);
        Due.is("11 most", x.open(MOST), false);
        Due.is("11 book", x.book(-1, 0), 1);
    }

    private static void fetching() {
        CoverFires x = row(4, 0);
        Due.is("12 from one that is out", x.fetch(1, 0), -1);
        x.light(0);
        Due.is("12 no street", x.fetch(2, 0), -1);
        Due.is("12 itself", x.fetch(0, 0), -1);
        Due.is("12 not told", x.fetch(4, 0), -1);
        Due.is("12 from not told", x.fetch(1, 4), -1);
        Due.is("12 from NONE", x.fetch(1, -1), -1);
        Due.is("12 fetched", x.fetch(1, 0), 8);
        Due.is("12 heat here", x.of(1, 3), 5);
        Due.is("12 open here", x.of(1, 2), 2);
        Due.is("12 not out here", x.fetch(1, 0), -1);
        Due.is("12 who", x.book(1, 1), 1);
        Due.is("12 what", x.book(1, 2), 1);
        x.cover(1);
        Due.is("12 from a covered one", x.fetch(2, 1), 4);
        x.hour(1);
        Due.is("12 heat 2", x.of(2, 3), 2);
        Due.is("12 heat 2 will do", x.fetch(3, 2), 1);
        CoverFires y = row(2, 0);
        y.light(0);
        y.cover(0);
        y.hour(8);
        Due.is("12 heat 1", y.of(0, 3), 1);
        Due.is("12 heat 1 is too little", y.fetch(1, 0), -1);
    }

    private static void quenching() {
        CoverFires x = row(1, 9);
        rule(x, "spreads 10; cools 1;");
        Due.is("13 out", x.quench(0), false);
        x.light(0);
        Due.is("13 open", x.quench(0), false);
        x.hour(1);
        Due.is("13 burns", x.of(0, 2), 3);
        Due.is("13 heat of one that burns", x.of(0, 3), 8);
        int noted = x.book(-1, 0);
        Due.is("13 quenched", x.quench(0), true);
        Due.is("13 out then", x.of(0, 2), 0);
        Due.is("13 heat then", x.of(0, 3), 0);
        Due.is("13 not written down", x.book(-1, 0), noted);
        Due.is("13 not told", x.quench(1), false);
        Due.is("13 NONE", x.quench(-1), false);
        x.light(0);
        x.hour(2);
        Due.is("13 burnt", x.of(0, 2), 4);
        Due.is("13 no more", x.quench(0), false);
    }

    private static void wardens() {
        CoverFires x = new CoverFires();
        x.house(0, 25);
        Due.is("14 not told", x.warden(1), -2);
        Due.is("14 NONE", x.warden(-1), -2);
        Due.is("14 no step", x.about(3), 0);
        Due.is("14 out", x.warden(0), -1);
        Due.is("14 a step all the same", x.about(3), 1);
        x.light(0);
        Due.is("14 fine", x.warden(0), 10);
        Due.is("14 coins", x.of(0, 1), 15);
        Due.is("14 covered", x.of(0, 2), 1);
        Due.is("14 written down", x.book(1, 2), 5);
        Due.is("14 covered: none due", x.warden(0), -1);
        x.open(0);
        Due.is("14 again", x.warden(0), 10);
        x.open(0);
        Due.is("14 what there is", x.warden(0), 5);
        x.open(0);
        Due.is("14 nothing left", x.warden(0), 0);
        Due.is("14 covered all the same", x.of(0, 2), 1);
        Due.is("14 all written down", x.befell(0, 5), 4);
        rule(x, "cools 0; spreads 0; fine 1;");
        x.open(0);
        x.hour(6);
        Due.is("14 no bell at 6", x.warden(0), -1);
        Due.is("14 open yet", x.of(0, 2), 2);
        x.hour(13);
        Due.is("14 no bell at 19", x.warden(0), -1);
        x.hour(1);
        Due.is("14 bell at 20", x.warden(0), 0);
        CoverFires y = row(1, 0);
        y.hour(5);
        y.light(0);
        Due.is("14 bell at 5", y.warden(0), 10);
    }

    private static void fineOfNothing() {
        CoverFires x = row(1, 0);
        rule(x, "fine 0-5;");
        x.light(0);
        Due.is("14 a fine of nothing", x.warden(0), 0);
        Due.is("14 covered for nothing", x.of(0, 2), 1);
        Due.is("14 coins stay", x.of(0, 1), 20);
        Due.is("14 nothing is written down", x.befell(0, 5), 1);
    }

    private static void hours() {
        CoverFires x = row(1, 0);
        Due.is("15 none", x.hour(0), -1);
        Due.is("15 below", x.hour(-1), -1);
        Due.is("15 too many", x.hour(61), -1);
        Due.is("15 most", x.hour(MOST), -1);
        Due.is("15 nothing done", x.is(0), 0);
        x.light(0);
        x.cover(0);
        Due.is("15 none caught", x.hour(8), 0);
        Due.is("15 hour", x.is(0), 8);
        Due.is("15 heat", x.of(0, 3), 1);
        Due.is("15 each a step", x.about(3), 10);
        x.hour(1);
        Due.is("15 out", x.of(0, 2), 0);
        Due.is("15 went out", x.book(1, 2), 2);
        Due.is("15 at the hour that passes", x.book(1, 0), 8);
        Due.is("15 sixty", x.hour(60), 0);
        Due.is("15 thirty steps", x.about(3), 30);
        CoverFires y = new CoverFires();
        y.hour(1);
        Due.is("15 wind is drawn", y.is(2), 3);
        Due.is("15 X behind it", y.is(3), (163 * 397 + 277) % 30497);
        CoverFires z = row(1, 9);
        z.light(0);
        // X 163: wind 3; X 3994: draw 4, not below 9 / 2
        Due.is("15 not below is not below", z.hour(1), 0);
        Due.is("15 X behind two draws", z.is(3), 51);
        // X 51: wind 1; X 20524: draw 4
        Due.is("15 open: 9, 6, 3", z.of(0, 3), 6);
    }

    private static void lastHour() {
        CoverFires x = new CoverFires();
        for (int i = 0; i < 166; i++) {
            x.hour(60);
        }
        Due.is("15 hour 9960", x.is(0), 9960);
        Due.is("15 beyond 9999", x.hour(40), -1);
        Due.is("15 nothing done there", x.is(0), 9960);
        x.house(0, 0);
        x.light(0);
        x.cover(0);
        Due.is("15 up to 9998", x.hour(38), 0);
        Due.is("15 out", x.of(0, 2), 0);
        x.light(0);
        x.cover(0);
        Due.is("22 just those that can pass", x.foretold(60, 0, 1), 8);
        Due.is("23 not out by then", x.out(0), -1);
        Due.is("15 the last", x.hour(1), 0);
        Due.is("15 none more", x.hour(1), -1);
        Due.is("15 9999", x.is(0), 9999);
        Due.is("22 none can pass", x.foretold(1, 0, 1), 8);
        // x = 163 + 2 * seed with x mod 8 = 7: no hour passes any more
        Due.is("17 no hour can pass", x.winters(2, 1), 9999);
    }

    private static void burningOneByOne() {
        CoverFires x = row(3, 9);
        rule(x, "spreads if fire = 2 or near > 0 then 10 else 0 end; cools 0;");
        x.light(0);
        Due.is("15 the open one", x.hour(1), 1);
        Due.is("15 near is of those that burnt at first", x.of(1, 2), 0);
        Due.is("15 the next", x.hour(1), 1);
        Due.is("15 burnt", x.of(0, 2), 4);
        Due.is("15 no heat", x.of(0, 3), 0);
        Due.is("15 its neighbour", x.of(1, 2), 3);
        Due.is("15 not yet", x.of(2, 2), 0);
        Due.is("15 both at once", x.hour(2), 1);
        Due.is("15 burnt never burns again", x.of(0, 2), 4);
        Due.is("15 all written down", x.book(-1, 0), 7);
        Due.is("15 burnt is 4", x.book(2, 2), 4);
        Due.is("15 caught is 3", x.book(3, 2), 3);
        CoverFires y = row(1, 0);
        rule(y, "spreads 10;");
        y.light(0);
        y.cover(0);
        Due.is("15 a covered one, alone, never draws", y.hour(2), 0);
    }

    private static void outAndCaughtAtOnce() {
        CoverFires x = row(2, 9);
        rule(x, "cools 9; spreads 10;");
        x.light(0);
        x.hour(1);
        // 0 went out, so it isn't open any more, and nothing burns near
        Due.is("15 out, not caught", x.of(0, 2), 0);
        CoverFires y = row(2, 9);
        rule(y, "cools if who = 0 then 0 else 9 end; spreads if near > 0 or who = 0 then 10 else 0 end;");
        y.light(0);
        y.hour(1);
        y.light(1);
        Due.is("15 out and caught", y.hour(1), 1);
        Due.is("15 it burns", y.of(1, 2), 3);
        Due.is("15 cold", y.of(1, 3), 0);
        Due.is("15 went out", y.befell(1, 2), 1);
        Due.is("15 caught", y.befell(1, 3), 1);
    }

    private static void scripts() {
        CoverFires x = new CoverFires();
        int text = Due.read(x, "cools 1; house 3 coins 40; house 5 coins 6; street 0 to 1 of 9; light 0; fetch 1 from 0;"
                + "cover 1; open 1; warden 0; hour 2; fine 3;");
        Due.is("16 not told", x.played(1), -2);
        Due.is("16 NONE", x.played(-1), -2);
        Due.is("16 all is done", x.played(text), -1);
        Due.is("16 houses", x.about(0), 2);
        Due.is("16 wood", x.of(1, 0), 5);
        Due.is("16 coins, fine without THE TEXT", x.of(0, 1), 30);
        Due.is("16 far", x.far(0, 1), 9);
        Due.is("16 hours", x.is(0), 2);
        Due.is("16 each a step", x.about(3), 7);
        Due.is("16 cools without THE TEXT", x.of(0, 4), 1);
        Due.is("16 the empty text", x.played(Due.read(x, "")), -1);
        Due.is("16 quench", x.played(Due.read(x, "quench 0;")), 0);
    }

    private static void scriptsThatEnd() {
        ends("house 1 coins 1; light 0; light 0; light 0;", 2);
        ends("fine 1; cools 2; cover 0;", 2);
        ends("light 7;", 0);
        ends("house 1 coins 1; street 0 to 0 of 4;", 1);
        ends("house 1 coins 1; street 0 to 1 of 4;", 1);
        ends("house 1 coins 1; house 1 coins 1; street 0 to 1 of 0; fetch 0 from 1;", 3);
        ends("house 1 coins 1; quench 0;", 1);
        ends("house 1 coins 1; open 0;", 1);
        ends("house 1 coins 1; warden 0; warden 0; light 0; warden 0; cover 0;", 5);
        ends("warden 0;", 0);
        ends("house 1 coins 1;house 1 coins 1;house 1 coins 1;house 1 coins 1;house 1 coins 1;"
                + "house 1 coins 1;house 1 coins 1;house 1 coins 1;house 1 coins 1;", 8);
    }

    private static void ends(String text, int clause) {
        CoverFires x = new CoverFires();
        Due.is("16 " + text, x.played(Due.read(x, text)), clause);
    }

    private static void scriptAtTheLastHour() {
        CoverFires x = new CoverFires();
        for (int i = 0; i < 166; i++) {
            x.hour(60);
        }
        int text = Due.read(x, "hour 30; hour 30; hour 1;");
        Due.is("16 those that can pass do", x.played(text), 1);
        Due.is("16 9999", x.is(0), 9999);
        Due.is("16 none can pass", x.played(text), 0);
    }

    private static void winters() {
        CoverFires x = new CoverFires();
        Due.is("17 seed below", x.winters(-1, 1), -1);
        Due.is("17 seed above", x.winters(10000, 1), -1);
        Due.is("17 none", x.winters(0, 0), -1);
        Due.is("17 too many", x.winters(0, 41), -1);
        Due.is("17 nothing done", x.about(3), 0);
        // 163 + 2 * 2 = 167, mod 8: 7, an HOUR
        Due.is("17 an hour without houses", x.winters(2, 1), 1);
        Due.is("17 X behind two draws", x.is(3), next(next(167)));
        Due.is("17 wind", x.is(2), next(167) % 10);
        Due.is("17 one step", x.about(3), 1);
        Due.is("17 none of it is", x.winters(9999, 1), 1);
        Due.is("17 a step all the same", x.about(3), 2);
        Due.is("17 X", x.is(3), next(20161));
        Due.is("17 back", x.undo(), 1);
        Due.is("17 X back", x.is(3), next(next(167)));
    }

    private static int next(int x) {
        return (x * 397 + 277) % 30497;
    }

    private static void wintersOfEverything() {
        CoverFires x = row(3, 0);
        rule(x, "spreads 0; cools 0;");
        int lit = seedFor(0, 0, 3);
        x.winters(lit, 2);
        Due.is("17 lit", x.of(0, 2), 2);
        Due.is("17 written down", x.befell(0, 0), 1);
        x.winters(seedFor(2, 0, 3), 2);
        Due.is("17 covered", x.of(0, 2), 1);
        x.winters(firstSeedFor(3, 0, 3), 1);
        Due.is("17 opened", x.of(0, 2), 2);
        x.winters(fetchSeed(1, 0), 2);
        Due.is("17 fetched", x.of(1, 3), 5);
        Due.is("17 heat there", x.of(0, 3), 8);
        x.winters(seedFor(6, 1, 3), 2);
        Due.is("17 a warden", x.of(1, 1), 10);
        x.by(-1);
        rule(x, "spreads 10 * near + 10; cools 0;");
        x.hour(1);
        Due.is("17 it burns", x.of(0, 2), 3);
        x.winters(firstSeedFor(5, 0, 3), 1);
        Due.is("17 quenched", x.of(0, 2), 0);
        Due.is("17 each one step", x.about(3), 7);
    }

    /** The first x of a winter is odd, so what an even one does comes second, behind a QUENCHED that can't be. */
    private static int seedFor(int kind, int house, int houses) {
        for (int seed = 0; seed < 10000; seed++) {
            int first = seed * 2 + 163;
            int second = next(first);
            if (first % 8 == 5 && second % 8 == kind && second % houses == house) {
                return seed;
            }
        }
        return -1;
    }

    private static int fetchSeed(int house, int from) {
        for (int seed = 0; seed < 10000; seed++) {
            int first = seed * 2 + 163;
            int second = next(first);
            if (first % 8 == 5 && second % 8 == 4 && second % 3 == house && second / 8 % 3 == from) {
                return seed;
            }
        }
        return -1;
    }

    private static int firstSeedFor(int kind, int house, int houses) {
        for (int seed = 0; seed < 10000; seed++) {
            int first = seed * 2 + 163;
            if (first % 8 == kind && first % houses == house) {
                return seed;
            }
        }
        return -1;
    }

    private static void undoing() {
        CoverFires x = row(2, 9);
        Due.is("18 none", x.undo(), -1);
        x.light(0);
        x.fetch(1, 0);
        x.warden(1);
        x.hour(2);
        Due.is("18 hour", x.undo(), 4);
        Due.is("18 one hour", x.is(0), 1);
        Due.is("18 the other", x.undo(), 3);
        Due.is("18 X", x.is(3), 163);
        Due.is("18 wind", x.is(2), 0);
        Due.is("18 warden", x.undo(), 2);
        Due.is("18 coins", x.of(1, 1), 20);
        Due.is("18 open", x.of(1, 2), 2);
        Due.is("18 fetch", x.undo(), 1);
        Due.is("18 heat there", x.of(0, 3), 9);
        Due.is("18 out", x.of(1, 2), 0);
        Due.is("18 light", x.undo(), 0);
        Due.is("18 book", x.book(-1, 0), 0);
        Due.is("18 no more", x.undo(), -1);
        for (int i = 0; i < 40; i++) {
            x.hour(1);
        }
        Due.is("18 thirty", x.undo(), 29);
        for (int i = 0; i < 29; i++) {
            x.undo();
        }
        Due.is("18 just thirty", x.undo(), -1);
        Due.is("18 ten are kept", x.is(0), 10);
    }

    private static void undoOfHousesAndStreets() {
        CoverFires x = row(1, 1);
        x.light(0);
        x.house(4, 77);
        x.street(0, 1, 5);
        x.light(1);
        x.warden(1);
        Due.is("18 warden", x.undo(), 2);
        Due.is("18 light", x.undo(), 1);
        Due.is("18 the first", x.undo(), 0);
        Due.is("18 the house stays", x.about(0), 2);
        Due.is("18 its coins", x.of(1, 1), 77);
        Due.is("18 its fire", x.of(1, 2), 0);
        Due.is("18 its heat", x.of(1, 3), 0);
        Due.is("18 the street stays", x.far(0, 1), 5);
    }

    private static void undoOfTheBook() {
        CoverFires x = row(1, 0);
        rule(x, "cools 9;");
        for (int i = 0; i < 15; i++) {
            x.light(0);
            x.hour(1);
        }
        Due.is("18 full", x.book(-1, 0), 30);
        Due.is("18 eldest", x.book(0, 2), 0);
        x.light(0);
        Due.is("18 the eldest gives way", x.book(0, 2), 2);
        x.undo();
        Due.is("18 and is there again", x.book(0, 2), 0);
        Due.is("18 thirty", x.book(-1, 0), 30);
    }

    private static void ofAHouse() {
        CoverFires x = row(3, 9);
        Due.is("19 not told", x.of(3, 0), -1);
        Due.is("19 NONE", x.of(-1, 0), -1);
        Due.is("19 what 8", x.of(0, 8), -1);
        Due.is("19 what -1", x.of(0, -1), -1);
        Due.is("19 cools of one that is out", x.of(0, 4), 1);
        Due.is("19 spreads of one that is out", x.of(0, 5), 2);
        Due.is("19 fine", x.of(0, 6), 10);
        x.light(1);
        Due.is("19 cools of an open one", x.of(1, 4), 3);
        Due.is("19 spreads of an open one", x.of(1, 5), 4);
        rule(x, "spreads 10; cools 0;");
        x.hour(1);
        x.by(-1);
        x.light(0);
        x.light(2);
        Due.is("19 near", x.of(0, 7), 1);
        Due.is("19 spreads with one near", x.of(0, 5), 5);
        Due.is("19 near itself", x.of(1, 7), 0);
        rule(x, "cools 0-1; spreads 0-1; fine 0-1;");
        Due.is("19 cools at least", x.of(0, 4), 0);
        Due.is("19 spreads at least", x.of(0, 5), 0);
        Due.is("19 fine at least", x.of(0, 6), 0);
        rule(x, "cools 10; spreads 11; fine 9999+1;");
        Due.is("19 cools at most", x.of(0, 4), 9);
        Due.is("19 spreads at most", x.of(0, 5), 10);
        Due.is("19 fine at most", x.of(0, 6), 9999);
    }

    private static void ofTheHour() {
        CoverFires x = new CoverFires();
        x.hour(5);
        Due.is("20 hour", x.is(0), 5);
        Due.is("20 bell at 5", x.is(1), 1);
        x.hour(1);
        Due.is("20 none at 6", x.is(1), 0);
        x.hour(13);
        Due.is("20 none at 19", x.is(1), 0);
        x.hour(1);
        Due.is("20 bell at 20", x.is(1), 1);
        x.hour(9);
        Due.is("20 bell at 29", x.is(1), 1);
        x.hour(1);
        Due.is("20 none at 30", x.is(1), 0);
        Due.is("20 what 4", x.is(4), -2);
        Due.is("20 what -1", x.is(-1), -2);
    }

    private static void book() {
        CoverFires x = row(2, 0);
        Due.is("21 none such", x.book(0, 0), -2);
        x.hour(3);
        x.light(1);
        Due.is("21 how many", x.book(-1, 0), 1);
        Due.is("21 hour", x.book(0, 0), 3);
        Due.is("21 house", x.book(0, 1), 1);
        Due.is("21 what", x.book(0, 2), 0);
        Due.is("21 beyond", x.book(1, 0), -2);
        Due.is("21 below", x.book(-2, 0), -2);
        Due.is("21 what 3", x.book(0, 3), -2);
        Due.is("21 what -1", x.book(0, -1), -2);
    }
}
