/** Sections III to V, promises 22 to 46: each sentence that names an edge, within and beyond it. */
public final class EdgesOfQuestionsTest {
    private static final int LEAST = Edge.LEAST;
    private static final int MOST = Edge.MOST;

    public static void main(String[] args) {
        nothingIsChanged();
        housesNotTold();
        foretoldHours();
        foretoldAsItComes();
        foretoldAtTheLastHours();
        outWithinSixty();
        outAtFirst();
        outAtTheLastHours();
        farOfEight();
        roundOrNone();
        roundOfFew();
        againOfOddOnes();
        pairsOfLeast();
        warmthOfEachHour();
        ringFromOneTo23();
        ringOfLikeOnes();
        dawnUpToEight();
        dawnFromWhom();
        dawnToWhom();
        dawnOfLikeOnes();
        chainsHourByHour();
        chainsFromWhom();
        stoneUpToEight();
        stoneOfLikeOnes();
        seenUpToEight();
        beganAtEachHour();
        caughtOrNotBy();
        whomToAsk();
        bidsAndLeave();
        cooledUpToEight();
        whoseLaw();
        byTheBook();
        partsOfAll();
        warmestOfAll();
        leavesAndKept();
        imageOfAll();
        imageStays();
        aboutAll();
        Due.finish();
    }

    /** "All that follows changes nothing." */
    private static void nothingIsChanged() {
        Edge.onlyAsks("22 foretold", x -> x.foretold(60, 0, 0));
        Edge.onlyAsks("22 foretold, burnt", x -> x.foretold(1, 0, 2));
        Edge.onlyAsks("23 out", x -> x.out(1));
        Edge.onlyAsks("24 far", x -> x.far(0, 1));
        Edge.onlyAsks("25 round", x -> x.round(0) + x.round(1));
        Edge.onlyAsks("26 again", x -> x.again(0));
        Edge.onlyAsks("28 ring", x -> x.ring(0) + x.ring(1) + x.ring(2));
        Edge.onlyAsks("29 dawn", x -> x.dawn(1, -1) + x.dawn(8, 4));
        Edge.onlyAsks("30 chain", x -> x.chain(4));
        Edge.onlyAsks("31 stone", x -> x.stone(8, false) + x.stone(3, true));
        Edge.onlyAsks("33 began", x -> x.began(-1) + x.began(0));
        Edge.onlyAsks("34 whom", x -> x.whom());
        Edge.onlyAsks("36 leave", x -> x.leave(3, false) + x.leave(1, true));
        Edge.onlyAsks("38 whose", x -> x.whose());
        Edge.onlyAsks("39 befell", x -> x.befell(-1, 0) + x.befell(0, 5));
        Edge.onlyAsks("40 parts", x -> x.parts());
        Edge.onlyAsks("41 warmest", x -> x.warmest());
        Edge.onlyAsks("42 leaves", x -> x.leaves());
        Edge.onlyAsks("43 kept", x -> x.kept());
        Edge.onlyAsks("46 about", x -> x.about(0) + x.about(6));
        Edge.onlyAsks("19 of", x -> x.of(0, 4) + x.of(1, 5) + x.of(0, 6));
        Edge.onlyAsks("21 book", x -> x.book(-1, 0) + x.book(0, 0));
        Edge.onlyAsks("7 fault", x -> x.fault(0) + x.fault(1));
    }

    private static void refusedHouses(String name, int want, Edge.CallWith call) {
        Edge.refused(name, want, call, -2, 8, 9, LEAST, MOST);
        Edge.refused(name + " the first not told", want, x -> call.on(x, x.about(0)));
    }

    /** "for others": HOUSES that are not told. */
    private static void housesNotTold() {
        refusedHouses("22 fire", -1, (x, house) -> x.foretold(1, house, 0));
        refusedHouses("22 heat", -1, (x, house) -> x.foretold(60, house, 1));
        refusedHouses("23", -1, (x, house) -> x.out(house));
        refusedHouses("24", -1, (x, house) -> x.far(house, 0));
        refusedHouses("24 other", -1, (x, house) -> x.far(0, house));
        refusedHouses("24 both", -1, (x, house) -> x.far(house, house));
        refusedHouses("26", -1, (x, house) -> x.again(house));
        refusedHouses("29", -2, (x, house) -> x.dawn(1, house));
        refusedHouses("30", -1, (x, house) -> x.chain(house));
        refusedHouses("32", -2, (x, house) -> x.seen(house, 0, true));
        refusedHouses("32 not by", -2, (x, house) -> x.seen(house, 99, false));
        refusedHouses("33", -2, (x, house) -> x.began(house));
        refusedHouses("35", 0, (x, house) -> Edge.bit(x.bid(house, 1)));
        refusedHouses("37", -2, (x, house) -> x.cooled(house, 1));
        refusedHouses("39", -2, (x, house) -> x.befell(house, 0));
        for (int what = 0; what < 2; what++) {
            int asked = what;
            Edge.refused("22 NONE", -1, x -> x.foretold(1, -1, asked));
        }
        Edge.refused("23 NONE", -1, x -> x.out(-1));
        Edge.refused("24 NONE", -1, x -> x.far(-1, 0));
        Edge.refused("24 other NONE", -1, x -> x.far(0, -1));
        Edge.refused("24 both NONE", -1, x -> x.far(-1, -1));
        Edge.refused("26 NONE", -1, x -> x.again(-1));
        Edge.refused("30 NONE", -1, x -> x.chain(-1));
        Edge.refused("35 NONE", 0, x -> Edge.bit(x.bid(-1, 1)));
    }

    /** "FORETOLD behind n HOURS (1 .. 60 ..)": "2 how many are burnt (whoever house is). NONE for others". */
    private static void foretoldHours() {
        for (int what = 0; what < 3; what++) {
            int asked = what;
            Edge.refused("22 hours, what " + what, -1, (x, n) -> x.foretold(n, 0, asked), 0, 61, -1, LEAST, MOST);
        }
        Edge.refused("22 what", -1, (x, what) -> x.foretold(1, 0, what), -1, 3, LEAST, MOST);
        for (int house : new int[] {-1, -2, 6, 8, LEAST, MOST}) {
            Due.is("22 burnt, whoever " + house, Edge.fires().foretold(1, house, 2), 2);
            Due.is("22 burnt, whoever in 60 " + house, Edge.fresh().foretold(60, house, 2), 0);
        }
        Due.is("22 one hour", Edge.fires().foretold(1, 3, 0), 4);
        Due.is("22 sixty hours", Edge.fires().foretold(60, 3, 0), 4);
    }

    /** FORETOLD is what comes. */
    private static void foretoldAsItComes() {
        for (int n = 1; n <= 60; n++) {
            CoverFires x = Edge.fires();
            CoverFires y = Edge.fires();
            Edge.rule(x, "cools if hour < 9 then 0 else 1 end;");
            Edge.rule(y, "cools if hour < 9 then 0 else 1 end;");
            y.hour(n);
            int burnt = 0;
            for (int h = 0; h < 6; h++) {
                Due.is("22 fire of " + h + " in " + n, x.foretold(n, h, 0), y.of(h, 2));
                Due.is("22 heat of " + h + " in " + n, x.foretold(n, h, 1), y.of(h, 3));
                burnt += y.of(h, 2) == 4 ? 1 : 0;
            }
            Due.is("22 burnt in " + n, x.foretold(n, 0, 2), burnt);
        }
        for (int fire = 0; fire < 5; fire++) {
            int now = fire == 3 ? 4 : fire;
            Due.is("22 of fire " + fire + " apart", foretoldApart(fire), now);
        }
    }

    private static int foretoldApart(int house) {
        CoverFires x = Edge.firesApart();
        Edge.rule(x, "spreads 0; cools 0;");
        return x.foretold(1, house, 0);
    }

    /** "those that can pass". */
    private static void foretoldAtTheLastHours() {
        for (int left = 0; left <= 3; left++) {
            CoverFires x = Edge.fresh();
            Edge.passTo(x, 9999 - left);
            x.house(0, 0);
            x.light(0);
            x.cover(0);
            for (int n = 1; n <= 5; n++) {
                Due.is("22 heat in " + n + ", left " + left, x.foretold(n, 0, 1), 9 - Math.min(n, left));
            }
            Due.is("22 in sixty, left " + left, x.foretold(60, 0, 1), 9 - left);
            Due.is("22 none burnt", x.foretold(60, 0, 2), 0);
        }
    }

    /** "OUT: in how many HOURS (0 .. 60) the FIRE of one is out first; none." */
    private static void outWithinSixty() {
        for (int last : new int[] {0, 1, 2, 30, 58, 59}) {
            Due.is("23 out in " + (last + 1), outAt(last).out(0), last + 1);
        }
        Due.is("23 in 61: none", outAt(60).out(0), -1);
        Due.is("23 in 62: none", outAt(61).out(0), -1);
        Due.is("23 never", outAt(9999).out(0), -1);
        CoverFires x = outAt(60);
        x.hour(1);
        Due.is("23 in 60, an hour later", x.out(0), 60);
    }

    /** A covered fire that goes out in the HOUR of that number. */
    private static CoverFires outAt(int last) {
        CoverFires x = Edge.houses(1);
        Edge.rule(x, "cools if hour = " + last + " then 9 else 0 end;");
        x.light(0);
        x.cover(0);
        return x;
    }

    /** 0 if it is out now; none of one that burns or is burnt. */
    private static void outAtFirst() {
        CoverFires x = Edge.firesApart();
        Edge.rule(x, "cools 1; spreads 0;");
        int[] due = {0, 9, 9, -1, -1, 0};
        for (int h = 0; h < 6; h++) {
            Due.is("23 of fire " + x.of(h, 2), x.out(h), due[h]);
        }
        x.by(-1);
        Due.is("23 covered, without a law", x.out(1), 9);
        CoverFires y = Edge.houses(1);
        y.light(0);
        Due.is("23 open, without a law", y.out(0), 3);
        y.warden(0);
        Due.is("23 covered by a warden", y.out(0), 9);
        CoverFires z = Edge.houses(1);
        Edge.rule(z, "cools 9; spreads 0;");
        z.light(0);
        Due.is("23 in one", z.out(0), 1);
        z.hour(1);
        Due.is("23 in none", z.out(0), 0);
    }

    private static void outAtTheLastHours() {
        for (int left = 0; left <= 4; left++) {
            CoverFires x = Edge.fresh();
            Edge.passTo(x, 9999 - left);
            x.house(0, 0);
            x.house(0, 0);
            x.light(0);
            Due.is("23 out in three, left " + left, x.out(0), left >= 3 ? 3 : -1);
            Due.is("23 out now, left " + left, x.out(1), 0);
        }
    }

    /** "the shortest way by STREETS (0: itself); none". */
    private static void farOfEight() {
        CoverFires x = Edge.houses(8);
        for (int h = 0; h < 8; h++) {
            Due.is("24 itself " + h, x.far(h, h), 0);
            Due.is("24 none " + h, x.far(h, (h + 1) % 8), -1);
        }
        for (int h = 1; h < 8; h++) {
            x.street(h - 1, h, 99);
        }
        for (int one = 0; one < 8; one++) {
            for (int other = 0; other < 8; other++) {
                Due.is("24 far " + one + " " + other, x.far(one, other), 99 * Math.abs(one - other));
            }
        }
        x.street(0, 7, 1);
        Due.is("24 round the other way", x.far(0, 6), 100);
        Due.is("24 this way yet", x.far(0, 3), 297);
        Due.is("24 either way", x.far(1, 5), 298);
        x.street(0, 7, 0);
        Due.is("24 as before", x.far(0, 7), 693);
    }

    /** "if they hang together (none, if they don't)", "ODD (1; bits; joined or not). NONE: .. for others". */
    private static void roundOrNone() {
        Edge.refused("25 what", -1, (x, what) -> x.round(what), -1, 2, 3, LEAST, MOST);
        CoverFires x = Edge.houses(8);
        Due.is("25 without streets", x.round(0), 0);
        Due.is("25 none odd", x.round(1), 0);
        x.street(0, 1, 99);
        Due.is("25 one street, six houses without", x.round(0), 198);
        Due.is("25 both ends", x.round(1), 3);
        x.street(6, 7, 1);
        Due.is("25 two apart", x.round(0), -1);
        Due.is("25 four ends", x.round(1), 3 + 192);
        Due.is("26 no round", x.again(0), -1);
        Due.is("26 none of the other part", x.again(7), -1);
        x.street(1, 7, 2);
        Due.is("25 joined", x.round(0), 204);
        Due.is("25 two ends", x.round(1), 1 + 64);
        Due.is("26 the one end", x.again(0), 6);
        Due.is("26 the other", x.again(6), 0);
        Due.is("26 not odd", x.again(1), -1);
        Due.is("26 no street at all", x.again(3), -1);
        CoverFires behind = Edge.houses(8);
        behind.street(3, 4, 5);
        behind.street(4, 6, 2);
        Due.is("25 the first ones without a street", behind.round(0), 14);
        Due.is("26 the ends", behind.again(3), 6);
        Due.is("25 no houses", Edge.fresh().round(0), 0);
        Due.is("25 no houses, none odd", Edge.fresh().round(1), 0);
    }

    private static void roundOfFew() {
        CoverFires ring = Edge.row(8);
        Due.is("25 a row of eight", ring.round(0), 14);
        ring.street(7, 0, 1);
        Due.is("25 a ring", ring.round(0), 8);
        Due.is("25 a ring has none odd", ring.round(1), 0);
        Due.is("26 none", ring.again(0), -1);
        ring.street(0, 4, 50);
        Due.is("25 a street across", ring.round(0), 8 + 50 + 4);
        Due.is("25 its ends", ring.round(1), 17);
        CoverFires all = Edge.houses(8);
        for (int one = 0; one < 8; one++) {
            for (int other = 0; other < one; other++) {
                all.street(one, other, 1);
            }
        }
        Due.is("25 all of them", all.round(0), 32);
        Due.is("25 all odd", all.round(1), 255);
        for (int h = 0; h < 8; h++) {
            Due.is("26 of like ones " + h, all.again(h), h ^ 1);
        }
    }

    /** "NONE for others (not ODD), and if there is no ROUND". */
    private static void againOfOddOnes() {
        CoverFires x = Edge.fires();
        // 5 and 2 have five STREETS each, the others two
        Due.is("25 odd", x.round(1), 4 + 32);
        int[] due = {-1, -1, 5, -1, -1, 2};
        for (int h = 0; h < 6; h++) {
            Due.is("26 again " + h, x.again(h), due[h]);
        }
        x.house(0, 0);
        x.house(0, 0);
        Due.is("26 houses without a street don't matter", x.again(2), 5);
        x.street(6, 7, 1);
        Due.is("26 no round any more", x.again(2), -1);
        Due.is("25 no round any more", x.round(0), -1);
    }

    /** "so that the FARs of all pairs together are least": not just the nearest of the lowest. */
    private static void pairsOfLeast() {
        CoverFires x = Edge.houses(8);
        // a comb: 0 - 4 - 5 - 6 - 7, with 1 at 4, 2 at 5, 3 at 6; ODD: all but none of 4 .. 6 (three STREETS each)
        x.street(0, 4, 1);
        x.street(4, 5, 1);
        x.street(5, 6, 1);
        x.street(6, 7, 10);
        x.street(1, 4, 5);
        x.street(2, 5, 1);
        x.street(3, 6, 1);
        Due.is("25 all odd", x.round(1), 255);
        // 0 with 4, 1 with 5 (6), 2 .. : 0-4 1, 1-5 6, 2-3 3, 6-7 10: 20; or 0-1 6, 4-5 1, 2-3 3, 6-7 10: 20;
        // or 1-4 5, 0-5 2, ..: 20; or 0-1 6, 2-4 2, 3-5 2, 6-7: 20: of like ones 0 with 1
        Due.is("25 length", x.round(0), 20 + 20);
        Due.is("26 the lowest with the lowest", x.again(0), 1);
        Due.is("26 then 2 with the lowest", x.again(2), 3);
        Due.is("26 then 4", x.again(4), 5);
        Due.is("26 the last", x.again(7), 6);
        CoverFires y = Edge.houses(4);
        // ODD: 0 .. 3 all; 0 is nearest to 1, but 0-2 and 1-3 are less together
        y.street(0, 1, 2);
        y.street(0, 2, 3);
        y.street(1, 3, 3);
        y.street(2, 3, 90);
        y.street(0, 3, 99);
        y.street(1, 2, 99);
        Due.is("26 not the nearest", y.again(0), 2);
        Due.is("26 so the others", y.again(1), 3);
        Due.is("25 length", y.round(0), 2 + 3 + 3 + 90 + 99 + 99 + 6);
        y.began(-1);
        Due.is("26 whatever was asked ahead", y.again(3), 1);
        y.whom();
        y.street(0, 1, 1);
        y.street(2, 3, 1);
        Due.is("26 as the streets are now", y.again(0), 1);
        y.whom();
        Due.is("24 far is no hours", y.far(1, 2), 4);
    }

    /** "WARMTH of each hour h (0 .. 23) of the day (told, -99 .. 99; at first 0)". */
    private static void warmthOfEachHour() {
        Edge.refused("27 hour", 0, (x, h) -> Edge.bit(x.warmth(h, 5)), -1, 24, LEAST, MOST);
        Edge.refused("27 warmth", 0, (x, warmth) -> Edge.bit(x.warmth(5, warmth)), -100, 100, LEAST, MOST);
        Edge.refused("28 what", -10000, (x, what) -> x.ring(what), -1, 3, LEAST, MOST);
        for (int h = 0; h < 24; h++) {
            CoverFires x = Edge.fresh();
            Due.is("27 coldest at " + h, x.warmth(h, -99), true);
            Due.is("28 a", x.ring(0), h);
            Due.is("28 m", x.ring(1), 1);
            Due.is("28 together", x.ring(2), -99);
            Due.is("27 warmest at " + h, x.warmth(h, 99), true);
            Due.is("28 a then", x.ring(0), h == 0 ? 1 : 0);
            Due.is("28 m then", x.ring(1), 1);
            Due.is("28 together then", x.ring(2), 0);
        }
        Edge.still("27 as it is", Edge::fresh, x -> Edge.bit(x.warmth(0, 0)), 1);
        CoverFires y = Edge.fresh();
        Due.is("28 at first a", y.ring(0), 0);
        Due.is("28 at first m", y.ring(1), 1);
        Due.is("28 at first together", y.ring(2), 0);
    }

    /** "fires are covered for m hours (1 .. 23) one behind the other from hour a on (behind 23 comes 0)". */
    private static void ringFromOneTo23() {
        for (int warm = 0; warm < 24; warm++) {
            CoverFires x = Edge.fresh();
            for (int h = 0; h < 24; h++) {
                x.warmth(h, h == warm ? 99 : -99);
            }
            Due.is("28 all but " + warm, x.ring(0), (warm + 1) % 24);
            Due.is("28 23 hours", x.ring(1), 23);
            Due.is("28 together", x.ring(2), -99 * 23);
        }
        CoverFires all = Edge.fresh();
        for (int h = 0; h < 24; h++) {
            all.warmth(h, -1);
        }
        Due.is("28 23 at most", all.ring(1), 23);
        Due.is("28 not all 24", all.ring(2), -23);
        Due.is("28 from 0 on", all.ring(0), 0);
        all.warmth(0, 0);
        Due.is("28 from 1 on", all.ring(0), 1);
        Due.is("28 all the others", all.ring(2), -23);
        for (int h = 0; h < 24; h++) {
            all.warmth(h, 1);
        }
        Due.is("28 one hour at least", all.ring(1), 1);
        Due.is("28 it can't be none", all.ring(2), 1);
        Due.is("28 the first of them", all.ring(0), 0);
    }

    /** "of like ones m is the least, then a". */
    private static void ringOfLikeOnes() {
        CoverFires x = Edge.fresh();
        for (int h = 0; h < 24; h++) {
            x.warmth(h, 9);
        }
        x.warmth(22, -4);
        x.warmth(23, -1);
        x.warmth(0, -1);
        x.warmth(1, 0);
        Due.is("28 22 to 0", x.ring(0), 22);
        Due.is("28 three, not four", x.ring(1), 3);
        Due.is("28 together", x.ring(2), -6);
        x.warmth(10, -6);
        Due.is("28 the shorter", x.ring(1), 1);
        Due.is("28 from 10 on", x.ring(0), 10);
        x.warmth(7, -6);
        Due.is("28 of like ones the lowest a", x.ring(0), 7);
        x.warmth(23, -2);
        Due.is("28 less together goes ahead", x.ring(0), 22);
        Due.is("28 three then", x.ring(1), 3);
        CoverFires y = Edge.fresh();
        y.warmth(3, -5);
        y.warmth(4, 5);
        y.warmth(5, -5);
        Due.is("28 round the warm one", y.ring(0), 5);
        Due.is("28 all the others", y.ring(1), 23);
        Due.is("28 both together", y.ring(2), -10);
    }

    /** "each to g (1 .. 8) HOUSES at most". */
    private static void dawnUpToEight() {
        Edge.refused("29 g", -2, (x, g) -> x.dawn(g, -1), 0, -1, 9, 10, LEAST, MOST);
        Edge.refused("29 g of one", -2, (x, g) -> x.dawn(g, 0), 0, -1, 9, 10, LEAST, MOST);
        CoverFires x = star(7);
        x.light(0);
        for (int g = 1; g <= 8; g++) {
            Due.is("29 how many by " + g, x.dawn(g, -1), Math.min(g, 7));
            for (int h = 1; h < 8; h++) {
                Due.is("29 who gives to " + h + " by " + g, x.dawn(g, h), h <= g ? 0 : -1);
            }
            Due.is("29 the giver", x.dawn(g, 0), -2);
        }
        Due.is("29 no houses", Edge.fresh().dawn(1, -1), 0);
        Due.is("29 no houses, eight", Edge.fresh().dawn(8, -1), 0);
    }

    /** HOUSE 0 has a STREET to each of some more. */
    private static CoverFires star(int rays) {
        CoverFires x = Edge.houses(rays + 1);
        for (int h = 1; h <= rays; h++) {
            x.street(0, h, 3);
        }
        return x;
    }

    /** "HOUSES whose FIRE is open or covered, HEAT 2 or more, may give". */
    private static void dawnFromWhom() {
        int[] due = {-1, 1, 2, -1, -1};
        for (int fire = 0; fire < 5; fire++) {
            CoverFires x = Edge.firesApart();
            x.street(fire, 5, 1);
            Due.is("29 of fire " + fire, x.dawn(1, 5), due[fire]);
            Due.is("29 how many of fire " + fire, x.dawn(1, -1), due[fire] == -1 ? 0 : 1);
        }
        for (int hours = 6; hours <= 8; hours++) {
            CoverFires x = star(2);
            x.light(0);
            x.cover(0);
            x.hour(hours);
            Due.is("29 at heat " + x.of(0, 3), x.dawn(2, -1), x.of(0, 3) >= 2 ? 2 : 0);
            Due.is("29 it gives at heat " + x.of(0, 3), x.dawn(2, 2), x.of(0, 3) >= 2 ? 0 : -1);
        }
    }

    /** "that are out and that a STREET leads to"; "-2 for others (not out)". */
    private static void dawnToWhom() {
        CoverFires x = Edge.fires();
        int[] due = {2, -2, -2, -2, -2, 1};
        for (int h = 0; h < 6; h++) {
            Due.is("29 to fire " + x.of(h, 2), x.dawn(8, h), due[h]);
        }
        for (int fire = 1; fire < 5; fire++) {
            int house = fire;
            Edge.still("29 not out", Edge::fires, y -> y.dawn(1, house), -2);
        }
        Due.is("29 two are given to", x.dawn(1, -1), 2);
        CoverFires y = Edge.row(3);
        y.light(0);
        Due.is("29 not by way of another", y.dawn(8, 2), -1);
        Due.is("29 just the one beside", y.dawn(8, -1), 1);
        y.street(0, 1, 0);
        Due.is("29 no street", y.dawn(8, 1), -1);
    }

    /** "of like ones, HOUSE by HOUSE of those out, the lowest giver (none behind all)". */
    private static void dawnOfLikeOnes() {
        CoverFires x = Edge.houses(5);
        for (int out = 2; out < 5; out++) {
            x.street(0, out, 1);
            x.street(1, out, 1);
        }
        x.light(0);
        x.light(1);
        Due.is("29 two of three", x.dawn(1, -1), 2);
        Due.is("29 the first by the lowest", x.dawn(1, 2), 0);
        Due.is("29 the second by the other", x.dawn(1, 3), 1);
        Due.is("29 the third by none", x.dawn(1, 4), -1);
        Due.is("29 all by two", x.dawn(2, -1), 3);
        Due.is("29 the third by the other then", x.dawn(2, 4), 1);
        Due.is("29 all by the lowest", x.dawn(3, 4), 0);
        x.street(0, 4, 0);
        x.street(1, 4, 0);
        x.street(0, 3, 0);
        // 2 by 0 and 3 by 1
        Due.is("29 the second has just one", x.dawn(1, 3), 1);
        CoverFires y = Edge.houses(5);
        y.street(0, 2, 1);
        y.street(0, 4, 1);
        y.street(1, 2, 1);
        y.light(0);
        y.light(1);
        Due.is("29 the most go ahead of the lowest", y.dawn(1, -1), 2);
        Due.is("29 so the first by the other", y.dawn(1, 2), 1);
        Due.is("29 one that none leads to", y.dawn(1, 3), -1);
        Due.is("29 the last by the lowest", y.dawn(1, 4), 0);
    }

    /** "HOUR by HOUR: in how many HOURS (from 1 on) one that is out gets it; none". */
    private static void chainsHourByHour() {
        CoverFires x = Edge.row(8);
        for (int h = 0; h < 8; h++) {
            Due.is("30 no fire at all", x.chain(h), -1);
        }
        x.light(0);
        for (int h = 1; h < 8; h++) {
            Due.is("30 chain to " + h, x.chain(h), h);
        }
        Due.is("30 not out", x.chain(0), -1);
        x.street(0, 7, 99);
        Due.is("30 the other way", x.chain(6), 2);
        Due.is("30 halfway", x.chain(4), 4);
        x.street(0, 7, 0);
        x.street(3, 4, 0);
        Due.is("30 up to there", x.chain(3), 3);
        Due.is("30 none behind it", x.chain(4), -1);
    }

    /** "each that has (as such a giver) or got FIRE gives to all beside it that are out". */
    private static void chainsFromWhom() {
        int[] due = {-1, 1, 1, -1, -1};
        for (int fire = 0; fire < 5; fire++) {
            CoverFires x = Edge.firesApart();
            x.street(fire, 5, 1);
            Due.is("30 from fire " + fire, x.chain(5), due[fire]);
            CoverFires y = Edge.firesApart();
            y.house(0, 0);
            y.street(2, fire == 2 ? 1 : fire, 1);
            y.street(fire, 5, 1);
            y.street(5, 6, 1);
            boolean gives = fire == 1 || fire == 2;
            Due.is("30 by way of fire " + fire, y.chain(5), fire == 0 ? 2 : gives ? 1 : -1);
            Due.is("30 and on from there", y.chain(6), fire == 0 ? 3 : gives ? 2 : -1);
        }
        for (int hours = 7; hours <= 8; hours++) {
            CoverFires x = Edge.row(3);
            x.light(1);
            x.cover(1);
            x.hour(hours);
            Due.is("30 at heat " + x.of(1, 3), x.chain(0), hours == 7 ? 1 : -1);
            Due.is("30 both sides at heat " + x.of(1, 3), x.chain(2), hours == 7 ? 1 : -1);
        }
        for (int fire = 1; fire < 5; fire++) {
            int house = fire;
            Edge.still("30 not out", Edge::fires, x -> x.chain(house), -1);
        }
    }

    /** "n (0 .. 8) HOUSES at most made of stone": a row of eight. */
    private static void stoneUpToEight() {
        Edge.refused("31 n", -1, (x, n) -> x.stone(n, true), -1, 9, LEAST, MOST);
        Edge.refused("31 n, the set", -1, (x, n) -> x.stone(n, false), -1, 9, LEAST, MOST);
        int[] sets = {0, 8, 4 + 32, 4 + 32, 85, 85, 85, 85, 255};
        int[] joined = {8, 4, 2, 2, 1, 1, 1, 1, 0};
        CoverFires x = Edge.row(8);
        for (int n = 0; n <= 8; n++) {
            Due.is("31 the set by " + n, x.stone(n, false), sets[n]);
            Due.is("31 together by " + n, x.stone(n, true), joined[n]);
            Due.is("31 no houses: the set by " + n, Edge.fresh().stone(n, false), 0);
            Due.is("31 no houses: together by " + n, Edge.fresh().stone(n, true), 0);
            Due.is("31 one house: the set by " + n, Edge.houses(1).stone(n, false), n == 0 ? 0 : 1);
            Due.is("31 one house: together by " + n, Edge.houses(1).stone(n, true), n == 0 ? 1 : 0);
        }
    }

    /** "of like ones the fewest of stone, then the lowest set". */
    private static void stoneOfLikeOnes() {
        CoverFires x = Edge.houses(8);
        for (int n = 0; n < 8; n++) {
            Due.is("31 no streets, none of stone by " + n, x.stone(n, false), 0);
            Due.is("31 each for itself by " + n, x.stone(n, true), 1);
        }
        Due.is("31 all of stone", x.stone(8, false), 255);
        Due.is("31 none left", x.stone(8, true), 0);
        CoverFires y = Edge.houses(4);
        y.street(0, 1, 1);
        y.street(2, 3, 1);
        Due.is("31 one doesn't help", y.stone(1, false), 0);
        Due.is("31 two yet", y.stone(1, true), 2);
        Due.is("31 two do, the lowest", y.stone(2, false), 5);
        Due.is("31 one yet", y.stone(2, true), 1);
        Due.is("31 three are no better", y.stone(3, false), 5);
        Due.is("31 four are", y.stone(4, false), 15);
        CoverFires z = star(7);
        Due.is("31 the middle", z.stone(1, false), 1);
        Due.is("31 it alone will do", z.stone(7, false), 1);
        CoverFires last = Edge.houses(8);
        for (int h = 0; h < 7; h++) {
            last.street(h, 7, 1);
        }
        Due.is("31 the last is the middle", last.stone(1, false), 128);
        Due.is("31 the fewest, not the lowest set of seven", last.stone(7, false), 128);
        Due.is("31 each alone", last.stone(7, true), 1);
        Due.is("31 all eight leave none", last.stone(8, false), 255);
    }

    /** "SEEN (8 at most; told: a HOUSE, an hour 0 .. 99 ..)". */
    private static void seenUpToEight() {
        Edge.refused("32 hour", -2, (x, hour) -> x.seen(0, hour, true), -1, 100, LEAST, MOST);
        Edge.refused("32 hour, not by", -2, (x, hour) -> x.seen(0, hour, false), -1, 100, LEAST, MOST);
        Edge.still("32 a ninth", Edge::full, x -> x.seen(0, 0, true), -2);
        Edge.still("32 a ninth, not by", Edge::full, x -> x.seen(7, 99, false), -2);
        CoverFires x = Edge.houses(8);
        for (int n = 1; n <= 8; n++) {
            Due.is("32 the " + n, x.seen(8 - n, n % 2 * 99, n % 3 == 0), n);
            Due.is("46 seen", x.about(4), n);
        }
        Due.is("32 not one more", x.seen(0, 0, false), -2);
        Due.is("32 none any more", x.seen(-1, 0, true), 0);
        Due.is("33 all again", x.began(-1), 255);
        Due.is("33 hours again", x.began(7), 100);
        Due.is("32 from 1 on again", x.seen(0, 99, true), 1);
        Edge.still("32 none of none", Edge::fresh, y -> y.seen(-1, 0, false), 0);
    }

    /** "a fire began at one HOUSE at an hour 0 .. 99": just that hour, and one STREET each hour. */
    private static void beganAtEachHour() {
        for (int hour = 0; hour <= 99; hour++) {
            CoverFires x = Edge.row(8);
            x.seen(0, hour, true);
            int reach = Math.min(7, hour);
            Due.is("33 houses by hour " + hour, x.began(-1), (2 << reach) - 1);
            Due.is("33 of itself by hour " + hour, x.began(0), 1);
            Due.is("33 of the last by hour " + hour, x.began(7), hour >= 7 ? 1 : 0);
        }
        Due.is("33 no houses", Edge.fresh().began(-1), 0);
        CoverFires y = Edge.houses(8);
        Due.is("33 nothing seen", y.began(-1), 255);
        y.seen(3, 7, true);
        Due.is("33 none leads there", y.began(-1), 8);
        Due.is("33 no hour of another", y.began(2), 0);
    }

    /** "at which it caught, or that it hadn't caught by that hour, it with". */
    private static void caughtOrNotBy() {
        for (int hour = 0; hour <= 99; hour++) {
            CoverFires one = Edge.row(3);
            one.seen(0, hour, false);
            Due.is("33 not by " + hour, one.began(0), 99 - hour);
            Due.is("33 not by " + hour + ", a street away", one.began(1), Math.min(100, 100 - hour));
            Due.is("33 not by " + hour + ", two", one.began(2), Math.min(100, 101 - hour));
            Due.is("33 houses", one.began(-1), hour == 99 ? 6 : 7);
        }
        CoverFires x = Edge.row(3);
        x.seen(1, 5, false);
        x.seen(1, 6, true);
        Due.is("33 caught right behind it", x.began(-1), 7);
        x.seen(1, 6, false);
        Due.is("33 not by it and at it: none", x.began(-1), 0);
        x.seen(-1, 0, true);
        x.seen(0, 5, true);
        x.seen(2, 5, true);
        Due.is("33 from the middle", x.began(-1), 2);
        x.seen(1, 4, true);
        Due.is("33 at 4", x.began(1), 1);
        x.seen(1, 3, false);
        Due.is("33 not by 3", x.began(1), 1);
        x.seen(1, 4, false);
        Due.is("33 not by 4", x.began(1), 0);
        CoverFires y = Edge.houses(2);
        y.seen(1, 99, false);
        Due.is("33 one that never catches hadn't", y.began(0), 100);
        y.seen(-1, 0, true);
        y.seen(1, 0, true);
        Due.is("33 one that never catches didn't", y.began(0), 0);
    }

    /** "the HOUSE for which most unlike answers (the hour at which it caught, or never) come"; "of like ones the lowest; none". */
    private static void whomToAsk() {
        Due.is("34 no houses", Edge.fresh().whom(), -1);
        CoverFires x = Edge.houses(2);
        x.seen(1, 5, true);
        Due.is("34 never is an answer, too", x.whom(), 0);
        x.seen(1, 6, true);
        Due.is("34 none left", x.whom(), -1);
        CoverFires y = Edge.row(4);
        y.seen(1, 10, true);
        // (0, 9), (1, 10), (2, 9), (3, 8): 0 catches at 9, 11, 11, 11; 1 at 10; 2 at 11, 11, 9, 9; 3 at 12, 12, 10, 8
        Due.is("34 three answers", y.whom(), 3);
        y.seen(3, 9, false);
        Due.is("34 two answers, the lowest", y.whom(), 0);
        y.seen(0, 10, false);
        // (1, 10), (2, 9): 0 at 11; 1 at 10; 2 at 11, 9; 3 at 12, 10
        Due.is("34 not the first any more", y.whom(), 2);
        y.seen(2, 10, true);
        Due.is("34 none left of these", y.whom(), -1);
        CoverFires z = Edge.row(3);
        z.seen(1, 90, true);
        z.seen(0, 89, false);
        // (1, 90), (2, 89): 0 at 91; 1 at 90; 2 at 91, 89
        Due.is("34 late hours", z.whom(), 2);
        z.seen(2, 89, false);
        Due.is("34 one answer of each", z.whom(), 0);
        CoverFires far = Edge.row(4);
        far.street(0, 1, 99);
        far.street(1, 2, 50);
        far.seen(1, 10, true);
        Due.is("34 one hour each street, however long", far.whom(), 3);
        CoverFires w = Edge.row(2);
        w.seen(0, 62, false);
        w.seen(0, 65, false);
        Due.is("34 hours on both sides of 64", w.whom(), 1);
        Due.is("34 34 of 0", w.began(0), 34);
        Due.is("34 35 of 1", w.began(1), 35);
    }

    /** "BIDS (told for each HOUSE, 0 .. 99; at first 0)"; "LEAVE for k (0 .. 8) HOUSES". */
    private static void bidsAndLeave() {
        Edge.refused("35 bid", 0, (x, bid) -> Edge.bit(x.bid(0, bid)), -1, 100, LEAST, MOST);
        Edge.refused("36 k", -1, (x, k) -> x.leave(k, false), -1, 9, LEAST, MOST);
        Edge.refused("36 k, paid", -1, (x, k) -> x.leave(k, true), -1, 9, LEAST, MOST);
        CoverFires x = Edge.houses(8);
        for (int k = 0; k <= 8; k++) {
            Due.is("36 no bids: the lowest " + k, x.leave(k, false), (1 << k) - 1);
            Due.is("36 no bids: nothing", x.leave(k, true), 0);
            Due.is("36 no houses " + k, Edge.fresh().leave(k, false), 0);
            Due.is("36 no houses, paid " + k, Edge.fresh().leave(k, true), 0);
            Due.is("36 one house " + k, Edge.houses(1).leave(k, false), k == 0 ? 0 : 1);
        }
        int[] bids = {5, 99, 0, 5, 98, 1, 99, 5};
        for (int h = 0; h < 8; h++) {
            Due.is("35 bid of " + h, x.bid(h, bids[h]), true);
        }
        int[] order = {1, 6, 4, 0, 3, 7, 5, 2};
        int having = 0;
        for (int k = 0; k <= 8; k++) {
            Due.is("36 who has it of " + k, x.leave(k, false), having);
            Due.is("36 what they pay of " + k, x.leave(k, true), k < 8 ? bids[order[k]] : 0);
            having |= k < 8 ? 1 << order[k] : 0;
        }
        CoverFires three = Edge.houses(3);
        three.bid(1, 7);
        Due.is("36 two of three", three.leave(2, false), 3);
        Due.is("36 three of three", three.leave(3, false), 7);
        Due.is("36 eight of three", three.leave(8, false), 7);
        Due.is("36 there are no others", three.leave(3, true), 0);
        Due.is("36 nor of eight", three.leave(8, true), 0);
        Due.is("36 none: the highest of all", three.leave(0, true), 7);
    }

    /** "COOLED, 8 at most: a HOUSE, by how much 0 .. 9". */
    private static void cooledUpToEight() {
        Edge.refused("37 by", -2, (x, by) -> x.cooled(0, by), -1, 10, LEAST, MOST);
        Edge.still("37 a ninth", Edge::full, x -> x.cooled(0, 0), -2);
        Edge.still("37 a ninth, as the others", Edge::full, x -> x.cooled(7, 9), -2);
        CoverFires x = Edge.houses(8);
        for (int n = 1; n <= 8; n++) {
            Due.is("37 the " + n, x.cooled(8 - n, n == 1 ? 0 : 9), n);
            Due.is("46 cooled", x.about(5), n);
        }
        Due.is("37 not one more", x.cooled(0, 0), -2);
        Due.is("37 none any more", x.cooled(-1, 0), 0);
        Due.is("37 from 1 on again", x.cooled(0, 0), 1);
        Edge.still("37 none of none", Edge::fresh, y -> y.cooled(-1, 0), 0);
    }

    /** "TEXTS (bits) by whose cools (a TEXT without it: by what is so without) all are so (as now, whatever its FIRE is)". */
    private static void whoseLaw() {
        Due.is("38 one text, nothing told", Edge.fires().whose(), 1);
        Due.is("38 no texts", Edge.fresh().whose(), 0);
        for (int by = 0; by <= 9; by++) {
            CoverFires x = Edge.fires();
            Due.read(x, "cools " + by + ";");
            Due.read(x, "fine 2;");
            Due.read(x, "cools heat;");
            Due.is("38 nothing told: all", x.whose(), 15);
            for (int h = 0; h < 6; h++) {
                x.cooled(-1, 0);
                x.cooled(h, by);
                int without = h == 2 ? 3 : 1;
                int heat = x.of(h, 3);
                Due.is("38 by " + by + " of fire " + x.of(h, 2), x.whose(),
                        (by == 0 ? 1 : 0) + 2 + (by == without ? 4 : 0) + (by == heat ? 8 : 0));
            }
        }
        CoverFires y = Edge.fires();
        Due.read(y, "cools who;");
        for (int h = 0; h < 6; h++) {
            y.cooled(h, h);
        }
        Due.is("38 all six", y.whose(), 2);
        y.cooled(0, 1);
        Due.is("38 one is not so", y.whose(), 0);
    }

    /** "how many of a what (0 .. 5), of a HOUSE (NONE: all)". */
    private static void byTheBook() {
        Edge.refused("39 what", -2, (x, what) -> x.befell(-1, what), -1, 6, LEAST, MOST);
        Edge.refused("39 what of one", -2, (x, what) -> x.befell(0, what), -1, 6, LEAST, MOST);
        CoverFires x = Edge.fires();
        x.warden(2);
        x.fetch(5, 1);
        x.warden(5);
        x.by(0);
        x.hour(1);
        int[] lit = {0, 1, 1, 1, 1, 0};
        int[] fetched = {0, 0, 0, 0, 0, 1};
        int[] caught = {0, 0, 1, 1, 1, 1};
        int[] burnt = {0, 0, 0, 1, 1, 0};
        int[] fined = {0, 0, 1, 0, 0, 1};
        for (int h = 0; h < 6; h++) {
            Due.is("39 lit " + h, x.befell(h, 0), lit[h]);
            Due.is("39 fetched " + h, x.befell(h, 1), fetched[h]);
            Due.is("39 went out " + h, x.befell(h, 2), 0);
            Due.is("39 caught " + h, x.befell(h, 3), caught[h]);
            Due.is("39 burnt " + h, x.befell(h, 4), burnt[h]);
            Due.is("39 fined " + h, x.befell(h, 5), fined[h]);
        }
        int[] all = {4, 1, 0, 4, 2, 2};
        for (int what = 0; what < 6; what++) {
            Due.is("39 all of " + what, x.befell(-1, what), all[what]);
            Due.is("39 of an empty book", Edge.fresh().befell(-1, what), 0);
        }
        CoverFires y = Edge.full();
        Due.is("39 just the thirty", y.befell(-1, 0) + y.befell(-1, 1) + y.befell(-1, 2), 30);
    }

    /** "in how many parts HOUSES hang together by STREETS", "(0 without HOUSES)". */
    private static void partsOfAll() {
        CoverFires x = Edge.fresh();
        Due.is("40 without houses", x.parts(), 0);
        for (int h = 0; h < 8; h++) {
            x.house(0, 0);
            Due.is("40 houses " + (h + 1), x.parts(), h + 1);
        }
        for (int h = 7; h > 0; h--) {
            x.street(h, h - 1, 1);
            Due.is("40 joined down to " + h, x.parts(), h);
        }
        x.street(0, 7, 1);
        Due.is("40 a ring", x.parts(), 1);
        x.street(3, 4, 0);
        Due.is("40 a row", x.parts(), 1);
        x.street(5, 6, 0);
        Due.is("40 two", x.parts(), 2);
        Due.is("40 whatever burns", Edge.fires().parts(), 1);
    }

    /** "the HOUSE of most HEAT; of like ones the lowest; none", "(no HEAT at all)". */
    private static void warmestOfAll() {
        Due.is("41 no houses", Edge.fresh().warmest(), -1);
        CoverFires x = Edge.houses(8);
        Due.is("41 no heat", x.warmest(), -1);
        Edge.rule(x, "cools 8; spreads 0;");
        x.light(7);
        Due.is("41 the last", x.warmest(), 7);
        x.hour(1);
        Due.is("41 at heat 1", x.warmest(), 7);
        x.light(5);
        Due.is("41 heat 9", x.warmest(), 5);
        x.light(6);
        Due.is("41 of like ones", x.warmest(), 5);
        x.hour(1);
        Due.is("41 at heat 1 of two", x.warmest(), 5);
        x.hour(1);
        Due.is("41 all cold", x.warmest(), -1);
        x.light(0);
        Due.is("41 the first", x.warmest(), 0);
        x.light(1);
        Due.is("41 the first of like ones", x.warmest(), 0);
        x.fetch(0, 1);
        x.street(0, 2, 1);
        x.fetch(2, 0);
        Due.is("41 the second then", x.warmest(), 1);
        CoverFires y = Edge.fires();
        y.cover(2);
        y.fetch(5, 1);
        y.fetch(0, 2);
        Due.is("41 one that burns", y.warmest(), 3);
    }

    private static void leavesAndKept() {
        Due.is("42 no houses", Edge.fresh().leaves(), 0);
        Due.is("42 no streets", Edge.houses(8).leaves(), 0);
        Due.is("42 both ends", Edge.row(8).leaves(), 129);
        Due.is("42 a star", star(7).leaves(), 254);
        Due.is("42 one street", star(1).leaves(), 3);
        CoverFires x = Edge.row(4);
        x.street(0, 3, 1);
        Due.is("42 a ring", x.leaves(), 0);
        x.street(1, 2, 0);
        Due.is("42 a row again", x.leaves(), 6);
        x.street(1, 0, 9);
        Due.is("42 told anew is one yet", x.leaves(), 6);
        Due.is("43 no houses", Edge.fresh().kept(), 0);
        Due.is("43 none", Edge.houses(8).kept(), 0);
        Due.is("43 covered and open ones", Edge.fires().kept(), 6);
        CoverFires all = Edge.houses(8);
        for (int h = 0; h < 8; h++) {
            all.light(h);
        }
        Due.is("43 all", all.kept(), 255);
        all.cover(3);
        Due.is("43 all yet", all.kept(), 255);
    }

    /** "AN IMAGE: all as it is (STEPS that can be taken back, too), but the tape and the latest FAULT. BACK: all is so again." */
    private static void imageOfAll() {
        for (int scene = 0; scene < 4; scene++) {
            CoverFires x = scene(scene);
            CoverFires y = scene(scene);
            Due.is("44 hour", x.image(), y.is(0));
            y.image();
            upset(x);
            int bytes = x.about(6);
            int fault = x.fault(0);
            int place = x.fault(1);
            Due.is("45 hour", x.back(), y.is(0));
            Due.is("45 the tape stays", x.about(6), bytes);
            Due.is("45 the fault stays", x.fault(0), fault);
            Due.is("45 its place stays", x.fault(1), place);
            Edge.same("45 all is so again, scene " + scene, Edge.look(x, false), Edge.look(y, false));
        }
    }

    private static CoverFires scene(int number) {
        return number == 0 ? Edge.fresh() : number == 1 ? Edge.lived() : number == 2 ? Edge.fires() : Edge.late();
    }

    /** Changes of all kinds. */
    private static void upset(CoverFires x) {
        x.winters(31, 40);
        for (int i = 0; i < 5; i++) {
            x.undo();
        }
        x.house(9, 1);
        x.house(8, 2);
        for (int h = 0; h < x.about(0); h++) {
            x.light(h);
            x.warden(h);
            x.street(h, 0, 50 + h);
            x.street(h, 1, 0);
            x.bid(h, 17);
        }
        x.seen(-1, 0, true);
        x.cooled(-1, 0);
        for (int i = 0; i < 3; i++) {
            x.seen(1 - i % 2, 5 + 3 * i * i, i == 1);
            x.cooled(1 - i % 2, 6 + i);
        }
        for (int h = 0; h < 24; h += 4) {
            x.warmth(h, h - 12);
        }
        Due.read(x, "cools 7; fine 77;");
        x.by(x.about(1) - 1);
        x.hour(3);
        Due.read(x, "light 9;");
        Due.tape(x, "hour 1; !");
    }

    /** "BACK to THE IMAGE (it stays)", whatever comes behind it. */
    private static void imageStays() {
        CoverFires x = Edge.fires();
        x.image();
        for (int i = 0; i < 2; i++) {
            upset(x);
            Due.is("45 back " + i, x.back(), 2);
        }
        CoverFires y = Edge.fires();
        y.image();
        Edge.same("45 back the second time", Edge.look(x, false), Edge.look(y, false));
        CoverFires z = Edge.lived();
        z.back();
        Due.is("45 the elder image", z.about(0), 3);
        Due.is("45 its steps", z.about(3), 1);
        Due.is("45 its notes", z.book(-1, 0), 1);
        Due.is("45 a house that was not told then", z.of(3, 0), -1);
        Due.is("45 told anew", z.house(5, 6), 3);
        Due.is("45 no street yet", z.far(2, 3), -1);
        z.image();
        z.back();
        Due.is("44 the newer image", z.about(0), 4);
        CoverFires full = Edge.full();
        full.image();
        full.back();
        full.light(7);
        full.undo();
        CoverFires other = Edge.full();
        other.image();
        other.light(7);
        other.undo();
        Edge.same("45 a full one", Edge.look(full, false), Edge.look(other, false));
    }

    /** "0 HOUSES, 1 TEXTS, 2 THE TEXT (NONE), 3 STEPS .., 4 SEEN, 5 COOLED, 6 bytes of the tape. -2 for others." */
    private static void aboutAll() {
        Edge.refused("46 what", -2, (x, what) -> x.about(what), -1, 7, 8, LEAST, MOST);
        int[] none = {0, 0, -1, 0, 0, 0, 0};
        int[] lived = {5, 2, 0, 7, 2, 2, 13};
        int[] full = {8, 4, 3, 30, 8, 8, 300};
        for (int what = 0; what < 7; what++) {
            Due.is("46 new, " + what, Edge.fresh().about(what), none[what]);
            Due.is("46 lived, " + what, Edge.lived().about(what), lived[what]);
            Due.is("46 full, " + what, Edge.full().about(what), full[what]);
        }
    }
}
