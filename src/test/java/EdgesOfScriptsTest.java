/** PLAYED by a TEXT (promise 16) and WINTERS (section V, promise 17): each sentence that names an edge. */
public final class EdgesOfScriptsTest {
    private static final int LEAST = Edge.LEAST;
    private static final int MOST = Edge.MOST;

    public static void main(String[] args) {
        textsNotTold();
        fourTexts();
        asByHand();
        lawsAreCounted();
        lawsOfAScriptDontRule();
        whatCantBeEndsIt();
        whatWasDoneStays();
        housesByScript();
        wardensAlwaysCan();
        hoursThatCanPass();
        twentyFourClauses();
        stepsOfAScript();
        seedsAndTimes();
        wintersByHand();
        wintersOfNobody();
        wintersAtTheLastHour();
        wintersByEachDraw();
        quenchedInWinter();
        winterIsOneStep();
        Due.finish();
    }

    private static int next(int x) {
        return (x * 397 + 277) % 30497;
    }

    /** "-2 for others". */
    private static void textsNotTold() {
        Edge.refused("16 text", -2, (x, text) -> x.played(text), -1, -2, 4, LEAST, MOST);
        Edge.refused("16 the first not told", -2, x -> x.played(x.about(1)));
    }

    private static void fourTexts() {
        CoverFires x = Edge.fresh();
        for (int t = 0; t < 4; t++) {
            Due.is("16 not told yet", x.played(t), -2);
            Due.is("6 text " + t, Due.read(x, "house " + t + " coins " + 10 * t + "; hour " + (t + 1) + ";"), t);
        }
        for (int t = 3; t >= 0; t--) {
            Due.is("16 played " + t, x.played(t), -1);
            Due.is("16 wood " + t, x.of(3 - t, 0), t);
            Due.is("16 coins " + t, x.of(3 - t, 1), 10 * t);
        }
        Due.is("16 hours", x.is(0), 10);
        Due.is("16 not told", x.played(4), -2);
        Due.is("16 of no clauses", playedOn(Edge.fires(), ""), -1);
        Edge.still("16 of no clauses", () -> {
            CoverFires y = Edge.fires();
            Due.read(y, " \n ");
            return y;
        }, y -> y.played(y.about(1) - 1), -1);
        Edge.still("16 of laws alone", () -> {
            CoverFires y = Edge.fires();
            Due.read(y, "fine 1; cools 2; spreads 3;");
            return y;
        }, y -> y.played(y.about(1) - 1), -1);
    }

    private static int playedOn(CoverFires x, String script) {
        return x.played(Due.read(x, script));
    }

    /** "its CLAUSES but laws, in their order, as by hand". */
    private static void asByHand() {
        CoverFires x = Edge.fires();
        CoverFires y = Edge.fires();
        Edge.rule(x, "spreads 0;");
        Edge.rule(y, "spreads 0;");
        String script = "light 0; cover 2; open 1; fetch 5 from 1; quench 3; warden 5; warden 4; hour 2;"
                + "house 9 coins 9999; house 0 coins 0; street 6 to 7 of 99; street 7 to 0 of 1; street 5 to 1 of 0;"
                + "fetch 7 from 0; hour 1;";
        Due.is("16 all is done", playedOn(x, script), -1);
        Due.is("the same text", Due.read(y, script), 2);
        Due.is("9 light", y.light(0), true);
        Due.is("10 cover", y.cover(2), true);
        Due.is("11 open", y.open(1), true);
        Due.is("12 fetch", y.fetch(5, 1), 8);
        Due.is("13 quench", y.quench(3), true);
        Due.is("14 fined", y.warden(5), 10);
        Due.is("14 not fined", y.warden(4), -1);
        y.hour(2);
        Due.is("2 house", y.house(9, 9999), 6);
        Due.is("2 another", y.house(0, 0), 7);
        Due.is("3 street", y.street(6, 7, 99), true);
        Due.is("3 another", y.street(7, 0, 1), true);
        Due.is("3 none any more", y.street(5, 1, 0), true);
        Due.is("12 fetch", y.fetch(7, 0), 2);
        y.hour(1);
        Edge.same("16 as by hand", Edge.look(x, true), Edge.look(y, true));
    }

    /** "its number among all CLAUSES (from 0)". */
    private static void lawsAreCounted() {
        Due.is("16 the first", playedOn(Edge.fires(), "light 1; light 0;"), 0);
        Due.is("16 the second", playedOn(Edge.fires(), "light 0; light 1;"), 1);
        Due.is("16 behind a law", playedOn(Edge.fires(), "fine 3; light 1;"), 1);
        Due.is("16 behind three", playedOn(Edge.fires(), "fine 3; spreads 1; cools 0; light 1; light 0;"), 3);
        Due.is("16 ahead of a law", playedOn(Edge.fires(), "light 0; light 0; fine 3;"), 1);
        Due.is("16 between laws", playedOn(Edge.fires(), "cools 1; light 0; fine 3; light 0; spreads 1;"), 3);
        String script = "hour 1;".repeat(23);
        Due.is("16 the 24th", playedOn(Edge.fires(), script + "light 4;"), 23);
        Due.is("16 the 23rd", playedOn(Edge.fires(), script.substring(7) + "light 4; hour 1;"), 22);
    }

    /** "THE TEXT (told; at first none) rules": not the one that is PLAYED. */
    private static void lawsOfAScriptDontRule() {
        CoverFires x = Edge.fires();
        Due.is("16 played", playedOn(x, "fine 3; cools 9; warden 2; hour 1; open 2;"), -1);
        Due.is("16 fine without", x.of(2, 1), 20);
        Due.is("16 cools without", x.of(2, 3), 8);
        Due.is("16 THE TEXT is none", x.about(2), -1);
        CoverFires y = Edge.fires();
        Edge.rule(y, "fine 4; cools 2; spreads 0;");
        Due.is("16 played", playedOn(y, "fine 3; cools 9; warden 2; hour 1;"), -1);
        Due.is("16 fine by THE TEXT", y.of(2, 1), 26);
        Due.is("16 cools by THE TEXT", y.of(2, 3), 7);
        Due.is("16 THE TEXT stays", y.about(2), 1);
    }

    /** "one that can't be ends it": of each kind, and nothing of it is done. */
    private static void whatCantBeEndsIt() {
        for (String act : new String[] {"light 1", "light 2", "light 3", "light 4", "light 6", "light 7", "cover 0", "cover 1",
                "cover 3", "cover 4", "cover 7", "open 0", "open 2", "open 3", "open 4", "open 6", "quench 0", "quench 1",
                "quench 2", "quench 4", "quench 7", "fetch 0 from 1", "fetch 1 from 2", "fetch 5 from 3", "fetch 5 from 4",
                "fetch 5 from 0", "fetch 5 from 5", "fetch 6 from 2", "fetch 0 from 6", "street 0 to 0 of 1",
                "street 6 to 0 of 1", "street 0 to 6 of 1", "street 5 to 5 of 0", "street 7 to 6 of 0"}) {
            Edge.still("16 " + act, () -> {
                CoverFires x = Edge.fires();
                Due.read(x, act + "; light 0; hour 1;");
                return x;
            }, x -> x.played(1), 0);
        }
        for (String act : new String[] {"light 0", "light 5", "cover 2", "open 1", "quench 3", "fetch 5 from 1", "fetch 5 from 2",
                "fetch 0 from 2", "street 0 to 1 of 1", "street 0 to 1 of 0", "street 0 to 1 of 99", "warden 0"}) {
            Due.is("16 " + act, playedOn(Edge.fires(), act + ";"), -1);
        }
    }

    private static void whatWasDoneStays() {
        CoverFires x = Edge.fires();
        CoverFires y = Edge.fires();
        String script = "quench 3; light 3; hour 1; cover 0; light 0; hour 5;";
        Due.is("16 ends", playedOn(x, script), 3);
        Due.read(y, script);
        y.quench(3);
        y.light(3);
        y.hour(1);
        Edge.same("16 what was done stays, the rest is not done", Edge.look(x, true), Edge.look(y, true));
    }

    private static void housesByScript() {
        CoverFires x = Edge.fresh();
        String script = "house 9 coins 9999;".repeat(8);
        Due.is("16 eight houses", playedOn(x, script), -1);
        Due.is("16 the last", x.of(7, 1), 9999);
        Due.is("16 a ninth", playedOn(x, "cools 1; house 0 coins 0;"), 1);
        CoverFires y = Edge.fresh();
        y.house(0, 0);
        Due.is("16 nine, one by hand", playedOn(y, script), 7);
        Due.is("16 eight", y.about(0), 8);
    }

    /** "a WARDEN always can": though no fine is due. */
    private static void wardensAlwaysCan() {
        CoverFires x = Edge.fires();
        Due.is("16 wardens", playedOn(x, "warden 0; warden 1; warden 2; warden 3; warden 4; warden 2; light 0;"), -1);
        Due.is("16 seven steps more", x.about(3), 14);
        Due.is("16 lit behind them", x.of(0, 2), 2);
        Due.is("16 one fine", x.befell(-1, 5), 1);
        CoverFires y = Edge.late();
        Due.is("16 without bell", playedOn(y, "warden 1; warden 0; open 0; warden 0;"), -1);
        Due.is("16 no fine", y.befell(-1, 5), 0);
    }

    /** "of so many HOURS those that can pass do". */
    private static void hoursThatCanPass() {
        for (int left = 0; left <= 3; left++) {
            for (int hours = 1; hours <= 4; hours++) {
                CoverFires x = Edge.fresh();
                Edge.passTo(x, 9999 - left);
                x.house(0, 0);
                int played = playedOn(x, "light 0; hour " + hours + "; cover 0;");
                String name = "16 hours " + hours + " of " + left + " left";
                Due.is(name, played, hours <= left ? hours >= 3 ? 2 : -1 : 1);
                Due.is(name + ": hour", x.is(0), 9999 - left + Math.min(left, hours));
                Due.is(name + ": heat", x.of(0, 3), Math.max(0, 9 - 3 * Math.min(left, hours)));
            }
        }
        CoverFires y = Edge.fresh();
        Edge.passTo(y, 9940);
        Due.is("16 59 of 60", playedOn(y, "hour 60;"), 0);
        Due.is("16 the last", y.is(0), 9999);
        CoverFires z = Edge.fresh();
        Edge.passTo(z, 9939);
        Due.is("16 60 of 60", playedOn(z, "hour 60;"), -1);
        Due.is("16 the last, too", z.is(0), 9999);
    }

    private static void twentyFourClauses() {
        CoverFires x = Edge.fresh();
        Due.is("16 24 hours", playedOn(x, "hour 1;".repeat(24)), -1);
        Due.is("16 a day", x.is(0), 24);
        Due.is("16 24 of sixty", playedOn(x, "hour 60;".repeat(24)), -1);
        Due.is("16 sixty days more", x.is(0), 24 + 1440);
    }

    /** Each is a STEP, as by hand; a HOUSE and a STREET are none. */
    private static void stepsOfAScript() {
        CoverFires x = Edge.fresh();
        playedOn(x, "house 1 coins 9; house 0 coins 3; street 0 to 1 of 4; light 0; fetch 1 from 0; cover 1; hour 3; warden 0;");
        Due.is("18 steps of a script", x.about(3), 7);
        for (int i = 6; i >= 0; i--) {
            Due.is("18 one by one", x.undo(), i);
        }
        Due.is("18 houses stay", x.about(0), 2);
        Due.is("18 the street stays", x.far(0, 1), 4);
        Due.is("18 out again", x.of(0, 2), 0);
        CoverFires y = Edge.fresh();
        playedOn(y, "hour 29; hour 1; hour 1;");
        Due.is("18 thirty at most", y.about(3), 30);
    }

    /** "SEED (0 .. 9999) * 2 + 163; n times (1 .. 40)". */
    private static void seedsAndTimes() {
        Edge.refused("17 seed", -1, (x, seed) -> x.winters(seed, 1), -1, 10000, LEAST, MOST);
        Edge.refused("17 times", -1, (x, n) -> x.winters(0, n), 0, -1, 41, LEAST, MOST);
        Edge.refused("17 neither", -1, x -> x.winters(-1, 41));
        for (int seed : new int[] {0, 1, 9998, 9999}) {
            for (int n : new int[] {1, 2, 39, 40}) {
                CoverFires x = Edge.fresh();
                int at = seed * 2 + 163;
                int hours = 0;
                for (int i = 0; i < n; i++) {
                    int drawn = at;
                    at = next(at);
                    if (drawn % 8 == 7) {
                        hours++;
                        at = next(at);
                    }
                }
                Due.is("17 seed " + seed + " times " + n, x.winters(seed, n), hours);
                Due.is("17 X", x.is(3), at);
            }
        }
    }

    /** The same done by hand; spreads is 0, so that how the draws fall doesn't matter to it. */
    private static void wintersByHand() {
        for (int houses = 1; houses <= 8; houses++) {
            for (int seed : new int[] {0, 9999, 17 * houses, 1234 + houses}) {
                for (int n : new int[] {1, 2, 3, 39, 40}) {
                    byHand(houses, seed, n);
                }
            }
        }
    }

    private static CoverFires winterTown(int houses) {
        CoverFires x = Edge.row(houses);
        Edge.rule(x, "cools 1 + bell; spreads 0; fine 3 + who;");
        x.light(houses - 1);
        return x;
    }

    private static void byHand(int houses, int seed, int n) {
        String name = "17 winter " + seed + " of " + n + ", houses " + houses;
        CoverFires x = winterTown(houses);
        CoverFires y = winterTown(houses);
        int answer = x.winters(seed, n);
        int at = seed * 2 + 163;
        int wind = 0;
        for (int i = 0; i < n; i++) {
            int drawn = at;
            at = next(at);
            if (drawn % 8 == 7) {
                wind = at % 10;
                y.hour(1);
                at = behindHour(y, houses, next(at));
            } else {
                doByHand(y, drawn, houses);
            }
        }
        Due.is(name, answer, y.is(0));
        Due.is(name + ": hour", x.is(0), y.is(0));
        Due.is(name + ": X", x.is(3), at);
        Due.is(name + ": wind", x.is(2), wind);
        Due.is(name + ": one step", x.about(3), 2);
        Due.is(name + ": notes", x.book(-1, 0), y.book(-1, 0));
        for (int h = 0; h < houses; h++) {
            for (int what = 1; what < 4; what++) {
                Due.is(name + ": of " + h + " " + what, x.of(h, what), y.of(h, what));
            }
        }
    }

    /** Those that are open yet have drawn, each once. */
    private static int behindHour(CoverFires y, int houses, int at) {
        int behind = at;
        for (int h = 0; h < houses; h++) {
            behind = y.of(h, 2) == 2 ? next(behind) : behind;
        }
        return behind;
    }

    private static void doByHand(CoverFires y, int drawn, int houses) {
        int house = drawn % houses;
        switch (drawn % 8) {
            case 0:
            case 1: y.light(house); break;
            case 2: y.cover(house); break;
            case 3: y.open(house); break;
            case 4: y.fetch(house, drawn / 8 % houses); break;
            case 5: y.quench(house); break;
            default: y.warden(house); break;
        }
    }

    /** "Without HOUSES all but HOURS are nothing." */
    private static void wintersOfNobody() {
        for (int seed = 0; seed < 8; seed++) {
            CoverFires x = Edge.fresh();
            int first = seed * 2 + 163;
            boolean hour = first % 8 == 7;
            Due.is("17 nobody, " + first % 8, x.winters(seed, 1), hour ? 1 : 0);
            Due.is("17 X", x.is(3), hour ? next(next(first)) : next(first));
            Due.is("17 wind", x.is(2), hour ? next(first) % 10 : 0);
            Due.is("17 book", x.book(-1, 0), 0);
            Due.is("17 a step", x.about(3), 1);
            Due.is("17 no house", x.about(0), 0);
        }
    }

    /** "7 an HOUR (if it can pass)". */
    private static void wintersAtTheLastHour() {
        CoverFires x = Edge.late();
        int wind = x.is(2);
        int heat = x.of(0, 3);
        Due.is("17 none can pass", x.winters(2, 1), 9999);
        Due.is("17 just the one draw", x.is(3), next(167));
        Due.is("17 no wind", x.is(2), wind);
        Due.is("17 no heat is lost", x.of(0, 3), heat);
        Due.is("17 though a fire can be lit or not", x.winters(9999, 40), 9999);
        CoverFires y = Edge.fresh();
        Edge.passTo(y, 9998);
        Due.is("17 one can pass", y.winters(2, 1), 9999);
        Due.is("17 and was drawn", y.is(3), next(next(167)));
        Due.is("17 none more", y.winters(2, 40), 9999);
        Due.is("18 back", y.undo() >= 0, true);
        Due.is("18 back again", y.undo() >= 0, true);
        Due.is("18 at 9998", y.is(0), 9998);
    }

    /** "x mod 8: 0, 1 LIT; 2 COVERED; 3 OPENED; 4 FETCHED from x / 8 mod how many; 5 QUENCHED; 6 A WARDEN; 7 an HOUR". */
    private static void wintersByEachDraw() {
        boolean[] came = new boolean[8];
        for (int seed = 0; seed < 400; seed++) {
            CoverFires x = Edge.fires();
            CoverFires y = Edge.fires();
            int first = seed * 2 + 163;
            int second = next(first);
            if (first % 8 == 7 || second % 8 == 7) {
                continue;
            }
            came[first % 8] = true;
            came[second % 8] = true;
            x.winters(seed, 2);
            doByHand(y, first, 6);
            doByHand(y, second, 6);
            for (int h = 0; h < 6; h++) {
                Due.is("17 seed " + seed + " fire " + h, x.of(h, 2), y.of(h, 2));
                Due.is("17 seed " + seed + " heat " + h, x.of(h, 3), y.of(h, 3));
                Due.is("17 seed " + seed + " coins " + h, x.of(h, 1), y.of(h, 1));
            }
            Due.is("17 seed " + seed + " notes", x.book(-1, 0), y.book(-1, 0));
            Due.is("17 seed " + seed + " X", x.is(3), next(second));
        }
        for (int kind = 0; kind < 7; kind++) {
            Due.is("17 what comes by " + kind, came[kind], true);
        }
    }

    /** "5 QUENCHED (each if it can be)", here of the one that burns. */
    private static void quenchedInWinter() {
        for (int seed = 0; seed < 100; seed++) {
            int first = seed * 2 + 163;
            if (first % 8 == 5) {
                CoverFires x = Edge.fires();
                x.winters(seed, 1);
                Due.is("17 quenched, seed " + seed, x.of(3, 2), first % 6 == 3 ? 0 : 3);
                Due.is("17 the others as they were", x.of(first % 6, 2), first % 6 == 3 ? 0 : Edge.fires().of(first % 6, 2));
            }
        }
    }

    /** "It is one STEP: HOUR." */
    private static void winterIsOneStep() {
        CoverFires x = Edge.fresh();
        for (int i = 1; i <= 32; i++) {
            x.winters(i, 40);
            Due.is("17 steps of " + i, x.about(3), Math.min(30, i));
        }
        CoverFires y = Edge.fires();
        int hour = y.is(0);
        Due.is("17 hour", y.winters(99, 40), y.is(0));
        Due.is("17 hours passed", y.is(0) > hour, true);
        Due.is("18 all at once", y.undo(), 7);
        Edge.same("18 as ahead of it", Edge.look(y, true), Edge.look(Edge.fires(), true));
    }
}
