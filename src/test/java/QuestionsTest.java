/** Promises 22 to 46: what is asked without anything being changed, and the image. */
public final class QuestionsTest {
    private static final int LEAST = Integer.MIN_VALUE;
    private static final int MOST = Integer.MAX_VALUE;

    public static void main(String[] args) {
        foretelling();
        goingOut();
        ways();
        rounds();
        pairs();
        equalPairs();
        ringing();
        ringingRoundMidnight();
        dawn();
        dawnOfMost();
        chains();
        stones();
        stonesOfARing();
        sightings();
        beginnings();
        askingWhom();
        bidding();
        cooling();
        befalling();
        parts();
        warmest();
        leavesAndKept();
        images();
        about();
        Due.finish();
    }

    private static CoverFires houses(int houses) {
        CoverFires x = new CoverFires();
        for (int h = 0; h < houses; h++) {
            x.house(0, 20);
        }
        return x;
    }

    private static CoverFires row(int houses) {
        CoverFires x = houses(houses);
        for (int h = 1; h < houses; h++) {
            x.street(h - 1, h, 1);
        }
        return x;
    }

    private static void foretelling() {
        CoverFires x = row(2);
        x.light(0);
        Due.is("22 fire", x.foretold(1, 0, 0), 2);
        Due.is("22 heat", x.foretold(1, 0, 1), 6);
        Due.is("22 heat of the third", x.foretold(2, 0, 1), 3);
        Due.is("22 out", x.foretold(3, 0, 0), 0);
        Due.is("22 none burnt", x.foretold(60, 0, 2), 0);
        Due.is("22 no hours", x.foretold(0, 0, 0), -1);
        Due.is("22 too many", x.foretold(61, 0, 0), -1);
        Due.is("22 too many, burnt", x.foretold(61, 0, 2), -1);
        Due.is("22 not told", x.foretold(1, 2, 0), -1);
        Due.is("22 not told, heat", x.foretold(1, -1, 1), -1);
        Due.is("22 what 3", x.foretold(1, 0, 3), -1);
        Due.is("22 what -1", x.foretold(1, 0, -1), -1);
        Due.is("22 changes nothing: X", x.is(3), 163);
        Due.is("22 changes nothing: hour", x.is(0), 0);
        Due.is("22 changes nothing: heat", x.of(0, 3), 9);
        Due.is("22 changes nothing: steps", x.about(3), 1);
        Due.is("22 changes nothing: book", x.book(-1, 0), 1);
        x.by(Due.read(x, "spreads 10; cools 1;"));
        Due.is("22 by THE TEXT", x.foretold(1, 0, 0), 3);
        x.by(Due.read(x, "cools wood + wind; spreads warm (1 - who);"));
        // wind 3 then
        Due.is("22 laws as all is then", x.foretold(1, 0, 1), 6);
        x.by(0);
        Due.is("22 its heat", x.foretold(1, 0, 1), 8);
        Due.is("22 one is burnt", x.foretold(2, 0, 2), 1);
        Due.is("22 whoever house is", x.foretold(3, LEAST, 2), 2);
    }

    private static void goingOut() {
        CoverFires x = row(2);
        x.light(0);
        Due.is("23 open", x.out(0), 3);
        x.cover(0);
        Due.is("23 covered", x.out(0), 9);
        Due.is("23 out", x.out(1), 0);
        Due.is("23 not told", x.out(2), -1);
        Due.is("23 NONE", x.out(-1), -1);
        x.by(Due.read(x, "cools 0;"));
        Due.is("23 never", x.out(0), -1);
        x.by(Due.read(x, "cools if hour = 59 then 9 else 0 end;"));
        Due.is("23 sixty", x.out(0), 60);
        x.by(Due.read(x, "cools if hour = 60 then 9 else 0 end;"));
        Due.is("23 beyond sixty", x.out(0), -1);
        Due.is("23 changes nothing", x.is(0), 0);
        CoverFires y = row(1);
        y.by(Due.read(y, "spreads 10;"));
        y.light(0);
        Due.is("23 it burns and is burnt", y.out(0), -1);
    }

    private static void ways() {
        CoverFires x = houses(5);
        x.street(0, 1, 9);
        x.street(1, 2, 9);
        x.street(0, 3, 2);
        x.street(3, 2, 99);
        Due.is("24 there", x.far(0, 2), 18);
        Due.is("24 back", x.far(2, 0), 18);
        Due.is("24 a way round", x.far(3, 2), 20);
        Due.is("24 itself", x.far(4, 4), 0);
        Due.is("24 none", x.far(0, 4), -1);
        Due.is("24 not told", x.far(0, 5), -1);
        Due.is("24 not told itself", x.far(5, 5), -1);
        Due.is("24 NONE", x.far(-1, 0), -1);
    }

    private static void rounds() {
        CoverFires x = houses(6);
        Due.is("25 without streets", x.round(0), 0);
        x.street(0, 1, 2);
        x.street(1, 2, 3);
        x.street(2, 0, 4);
        Due.is("25 none odd", x.round(0), 9);
        Due.is("25 no bits", x.round(1), 0);
        x.street(2, 3, 10);
        Due.is("25 there and back", x.round(0), 29);
        Due.is("25 odd", x.round(1), 4 + 8);
        x.street(4, 5, 1);
        Due.is("25 not joined", x.round(0), -1);
        Due.is("25 bits all the same", x.round(1), 4 + 8 + 16 + 32);
        Due.is("25 what 2", x.round(2), -1);
        Due.is("25 what -1", x.round(-1), -1);
        Due.is("26 no round", x.again(2), -1);
        x.street(3, 4, 99);
        Due.is("25 joined", x.round(0), 2 + 3 + 4 + 10 + 1 + 99 + 110);
        x.street(0, 1, 0);
        Due.is("25 a way without it", x.round(0), 2 * (3 + 4 + 10 + 1 + 99));
    }

    private static void pairs() {
        CoverFires x = row(8);
        Due.is("26 the ends", x.again(0), 7);
        Due.is("26 the other end", x.again(7), 0);
        Due.is("26 between", x.again(3), -1);
        Due.is("26 not told", x.again(8), -1);
        Due.is("26 NONE", x.again(-1), -1);
        CoverFires star = houses(8);
        for (int h = 1; h < 8; h++) {
            star.street(0, h, h);
        }
        // eight odd ones: each but 0 is as far as its number, so all pairings are alike
        Due.is("25 a star", star.round(0), 28 + 28);
        Due.is("26 the lowest with the lowest", star.again(0), 1);
        Due.is("26 then the next", star.again(2), 3);
        Due.is("26 the last", star.again(7), 6);
        CoverFires far = houses(4);
        far.street(0, 1, 9);
        far.street(2, 3, 9);
        far.street(0, 2, 1);
        far.street(1, 3, 1);
        far.street(0, 3, 20);
        far.street(1, 2, 20);
        Due.is("25 four odd ones", far.round(0), 60 + 2);
        Due.is("26 the near one", far.again(0), 2);
        Due.is("26 the other two", far.again(3), 1);
    }

    private static void equalPairs() {
        CoverFires x = houses(4);
        x.street(0, 1, 5);
        x.street(0, 2, 5);
        x.street(0, 3, 5);
        x.street(1, 2, 5);
        x.street(1, 3, 5);
        x.street(2, 3, 5);
        Due.is("25 all alike", x.round(0), 40);
        Due.is("26 of like ones", x.again(0), 1);
        Due.is("26 and so", x.again(2), 3);
        Due.is("26 and back", x.again(3), 2);
    }

    private static void ringing() {
        CoverFires x = new CoverFires();
        Due.is("28 at first a", x.ring(0), 0);
        Due.is("28 at first m", x.ring(1), 1);
        Due.is("28 at first together", x.ring(2), 0);
        Due.is("27 hour -1", x.warmth(-1, 0), false);
        Due.is("27 hour 24", x.warmth(24, 0), false);
        Due.is("27 above", x.warmth(0, 100), false);
        Due.is("27 below", x.warmth(0, -100), false);
        Due.is("27 most", x.warmth(MOST, LEAST), false);
        Due.is("28 nothing is told", x.ring(1), 1);
        for (int h = 0; h < 24; h++) {
            Due.is("27 hour " + h, x.warmth(h, 99), true);
        }
        Due.is("28 all warm", x.ring(2), 99);
        Due.is("28 of like ones a", x.ring(0), 0);
        for (int h = 0; h < 24; h++) {
            x.warmth(h, -99);
        }
        Due.is("28 23 hours at most", x.ring(1), 23);
        Due.is("28 all cold", x.ring(2), -2277);
        Due.is("28 a", x.ring(0), 0);
        Due.is("28 what 3", x.ring(3), -10000);
        Due.is("28 what -1", x.ring(-1), -10000);
    }

    private static void ringingRoundMidnight() {
        CoverFires x = new CoverFires();
        for (int h = 0; h < 24; h++) {
            x.warmth(h, 1);
        }
        x.warmth(23, -2);
        x.warmth(0, 0);
        x.warmth(1, -3);
        Due.is("28 behind 23 comes 0", x.ring(0), 23);
        Due.is("28 three", x.ring(1), 3);
        Due.is("28 together", x.ring(2), -5);
        x.warmth(0, 2);
        // 1 alone is -3, 23 to 1 is -3
        Due.is("28 of like ones m", x.ring(1), 1);
        Due.is("28 its a", x.ring(0), 1);
        x.warmth(5, -3);
        Due.is("28 then a", x.ring(0), 1);
        Due.is("28 one hour", x.ring(1), 1);
        x.warmth(3, -2);
        Due.is("28 from 1 to 5", x.ring(1), 5);
        Due.is("28 together then", x.ring(2), -6);
    }

    private static void dawn() {
        CoverFires x = row(4);
        Due.is("29 none may give", x.dawn(1, -1), 0);
        Due.is("29 nobody gives", x.dawn(1, 0), -1);
        x.light(1);
        Due.is("29 one to one", x.dawn(1, -1), 1);
        Due.is("29 the lowest gets it", x.dawn(1, 0), 1);
        Due.is("29 none left", x.dawn(1, 2), -1);
        Due.is("29 to two", x.dawn(2, -1), 2);
        Due.is("29 the other, too", x.dawn(2, 2), 1);
        Due.is("29 no street", x.dawn(8, 3), -1);
        Due.is("29 not out", x.dawn(1, 1), -2);
        Due.is("29 not told", x.dawn(1, 4), -2);
        Due.is("29 below NONE", x.dawn(1, -2), -2);
        Due.is("29 g 0", x.dawn(0, -1), -2);
        Due.is("29 g 9", x.dawn(9, -1), -2);
        Due.is("29 g 0 of one", x.dawn(0, 0), -2);
        Due.is("29 nothing is done", x.kept(), 2);
        x.cover(1);
        x.hour(7);
        Due.is("29 heat 2", x.dawn(8, -1), 2);
        x.hour(1);
        Due.is("29 heat 1", x.dawn(8, -1), 0);
        Due.is("29 heat 1 gives to nobody", x.dawn(8, 0), -1);
    }

    private static void dawnOfMost() {
        CoverFires x = houses(4);
        x.street(0, 2, 1);
        x.street(0, 3, 1);
        x.street(1, 2, 1);
        x.light(0);
        x.light(1);
        // 2 from 0 would leave 3 without
        Due.is("29 the most", x.dawn(1, -1), 2);
        Due.is("29 not the lowest", x.dawn(1, 2), 1);
        Due.is("29 as 3 has just 0", x.dawn(1, 3), 0);
        Due.is("29 with two each", x.dawn(2, 2), 0);
        CoverFires y = houses(4);
        y.street(3, 0, 1);
        y.street(3, 1, 1);
        y.street(2, 1, 1);
        y.street(2, 0, 1);
        y.light(3);
        y.light(2);
        Due.is("29 of like ones the lowest giver", y.dawn(1, 0), 2);
        Due.is("29 then the other", y.dawn(1, 1), 3);
    }

    private static void chains() {
        CoverFires x = row(6);
        Due.is("30 no fire", x.chain(0), -1);
        x.light(2);
        Due.is("30 beside", x.chain(1), 1);
        Due.is("30 two hours", x.chain(0), 2);
        Due.is("30 three hours", x.chain(5), 3);
        Due.is("30 not out", x.chain(2), -1);
        Due.is("30 not told", x.chain(6), -1);
        Due.is("30 NONE", x.chain(-1), -1);
        x.street(3, 4, 0);
        Due.is("30 no way", x.chain(5), -1);
        x.street(3, 4, 1);
        x.by(Due.read(x, "spreads if who = 4 then 10 else 0 end; cools 0;"));
        x.light(4);
        x.hour(1);
        Due.is("30 not through one that burns", x.chain(5), -1);
        CoverFires y = row(3);
        y.light(0);
        y.cover(0);
        y.hour(8);
        Due.is("30 heat 1 gives nothing", y.chain(1), -1);
        y.undo();
        Due.is("30 heat 2 gives", y.chain(2), 2);
        y.hour(1);
        y.light(2);
        y.by(Due.read(y, "cools 0; spreads 0;"));
        CoverFires z = row(4);
        z.light(0);
        z.cover(0);
        z.hour(8);
        z.light(3);
        // 0 is covered with heat 1: it neither gives nor gets
        Due.is("30 from the other end", z.chain(1), 2);
    }

    private static void stones() {
        CoverFires x = row(7);
        Due.is("31 none", x.stone(0, false), 0);
        Due.is("31 all hang together", x.stone(0, true), 7);
        Due.is("31 the middle", x.stone(1, false), 8);
        Due.is("31 three each", x.stone(1, true), 3);
        // with two: at best 2, by {1,4}, {2,4}, {2,5}: 2 + 16 is the lowest
        Due.is("31 two", x.stone(2, false), 2 + 16);
        Due.is("31 two left together", x.stone(2, true), 2);
        Due.is("31 three stones", x.stone(3, false), 2 + 8 + 32);
        Due.is("31 alone", x.stone(3, true), 1);
        Due.is("31 the fewest", x.stone(6, false), 2 + 8 + 32);
        Due.is("31 all", x.stone(7, false), 127);
        Due.is("31 none left", x.stone(7, true), 0);
        Due.is("31 more than there are", x.stone(8, false), 127);
        Due.is("31 below", x.stone(-1, true), -1);
        Due.is("31 nine", x.stone(9, false), -1);
        CoverFires none = new CoverFires();
        Due.is("31 without houses", none.stone(8, false), 0);
        Due.is("31 none of them", none.stone(0, true), 0);
    }

    private static void stonesOfARing() {
        CoverFires x = row(4);
        x.street(3, 0, 1);
        Due.is("31 one of a ring", x.stone(1, false), 1);
        Due.is("31 three left", x.stone(1, true), 3);
        Due.is("31 two of a ring", x.stone(2, false), 5);
        CoverFires y = houses(3);
        Due.is("31 no streets: none of stone", y.stone(2, false), 0);
        Due.is("31 each alone", y.stone(2, true), 1);
    }

    private static void sightings() {
        CoverFires x = houses(2);
        Due.is("32 not told", x.seen(2, 0, true), -2);
        Due.is("32 below NONE", x.seen(-2, 0, true), -2);
        Due.is("32 hour -1", x.seen(0, -1, true), -2);
        Due.is("32 hour 100", x.seen(0, 100, false), -2);
        Due.is("32 none came", x.about(4), 0);
        for (int n = 1; n <= 8; n++) {
            Due.is("32 the " + n, x.seen(n % 2, 99, n > 4), n);
        }
        Due.is("32 the ninth", x.seen(0, 0, true), -2);
        Due.is("32 eight", x.about(4), 8);
        Due.is("32 none any more", x.seen(-1, 0, false), 0);
        Due.is("32 none", x.about(4), 0);
        Due.is("32 one again", x.seen(0, 0, true), 1);
    }

    private static void beginnings() {
        CoverFires none = new CoverFires();
        Due.is("33 without houses", none.began(-1), 0);
        CoverFires x = row(3);
        x.house(0, 0);
        x.street(0, 1, 50);
        Due.is("33 all at first", x.began(-1), 15);
        Due.is("33 a hundred hours", x.began(0), 100);
        Due.is("33 not told", x.began(4), -2);
        Due.is("33 below NONE", x.began(-2), -2);
        x.seen(2, 1, true);
        Due.is("33 not so early, not so far", x.began(-1), 2 + 4);
        Due.is("33 one hour", x.began(1), 1);
        Due.is("33 too far", x.began(0), 0);
        x.seen(1, 1, false);
        Due.is("33 not by that hour, it with", x.began(-1), 4);
        x.seen(-1, 0, true);
        x.seen(0, 10, false);
        Due.is("33 from 11 on", x.began(0), 89);
        Due.is("33 a street further", x.began(1), 90);
        Due.is("33 two streets", x.began(2), 91);
        Due.is("33 never comes there", x.began(3), 100);
        x.seen(0, 99, false);
        Due.is("33 not at all at 99", x.began(0), 0);
        Due.is("33 but beside", x.began(-1), 2 + 4 + 8);
        x.seen(-1, 0, true);
        x.seen(2, 99, true);
        Due.is("33 up to 99", x.began(2), 1);
        x.seen(1, 99, true);
        Due.is("33 both at 99 from neither", x.began(-1), 0);
        x.seen(-1, 0, true);
        x.seen(3, 5, true);
        Due.is("33 the lone one", x.began(-1), 8);
    }

    private static void askingWhom() {
        CoverFires none = new CoverFires();
        Due.is("34 without houses", none.whom(), -1);
        CoverFires x = row(3);
        // 0: hours 0 .. 101, 1: 0 .. 100, 2: as 0
        Due.is("34 the lowest end", x.whom(), 0);
        x.seen(1, 10, true);
        // (0, 9), (1, 10), (2, 9): 0 answers 9, 11, 11; 1 answers 10; 2 answers 11, 11, 9
        Due.is("34 of like ones the lowest", x.whom(), 0);
        x.seen(0, 9, true);
        Due.is("34 one answer each", x.whom(), 0);
        x.seen(0, 8, true);
        Due.is("34 none fits", x.whom(), -1);
        CoverFires y = row(3);
        y.house(0, 0);
        y.seen(0, 10, false);
        y.seen(0, 12, false);
        y.seen(1, 12, false);
        y.seen(2, 11, false);
        // never counts as an answer: all are asked alike but for the hours
        Due.is("34 from 13 on", y.began(0), 87);
        Due.is("34 which has most", y.whom(), 3);
    }

    private static void bidding() {
        CoverFires x = houses(5);
        Due.is("35 not told", x.bid(5, 1), false);
        Due.is("35 NONE", x.bid(-1, 1), false);
        Due.is("35 below", x.bid(0, -1), false);
        Due.is("35 above", x.bid(0, 100), false);
        Due.is("36 of like ones the lowest", x.leave(2, false), 3);
        Due.is("36 nothing to pay", x.leave(2, true), 0);
        Due.is("35 told", x.bid(3, 99), true);
        Due.is("35 another", x.bid(1, 50), true);
        Due.is("35 a third", x.bid(4, 50), true);
        Due.is("36 none", x.leave(0, false), 0);
        Due.is("36 the highest of all", x.leave(0, true), 99);
        Due.is("36 the highest", x.leave(1, false), 8);
        Due.is("36 pays the next", x.leave(1, true), 50);
        Due.is("36 the lower of like ones", x.leave(2, false), 8 + 2);
        Due.is("36 pays as much", x.leave(2, true), 50);
        Due.is("36 all", x.leave(5, false), 31);
        Due.is("36 no others", x.leave(5, true), 0);
        Due.is("36 more than there are", x.leave(8, false), 31);
        Due.is("36 no others either", x.leave(8, true), 0);
        Due.is("36 nine", x.leave(9, false), -1);
        Due.is("36 below", x.leave(-1, true), -1);
        Due.is("35 anew", x.bid(3, 0), true);
        Due.is("36 anew", x.leave(1, false), 2);
        Due.is("36 without houses", new CoverFires().leave(3, true), 0);
        CoverFires eight = houses(8);
        eight.bid(7, 3);
        eight.bid(0, 4);
        Due.is("36 pays what the last bids", eight.leave(1, true), 3);
        eight.bid(7, 5);
        Due.is("36 pays what the first bids", eight.leave(1, true), 4);
    }

    private static void cooling() {
        CoverFires x = houses(3);
        Due.is("37 not told", x.cooled(3, 1), -2);
        Due.is("37 below NONE", x.cooled(-2, 1), -2);
        Due.is("37 by -1", x.cooled(0, -1), -2);
        Due.is("37 by 10", x.cooled(0, 10), -2);
        Due.is("38 no texts", x.whose(), 0);
        Due.read(x, "cools 1+who;");
        Due.read(x, "fine 3;");
        Due.read(x, "cools 0-4;");
        Due.read(x, "cools if fire = 2 then 3 else 1 end;");
        Due.is("38 all without any told", x.whose(), 15);
        Due.is("37 first", x.cooled(0, 1), 1);
        Due.is("38 who, none, by fire", x.whose(), 1 + 2 + 8);
        Due.is("37 second", x.cooled(1, 2), 2);
        Due.is("38 who alone", x.whose(), 1);
        x.by(2);
        Due.is("38 THE TEXT doesn't matter", x.whose(), 1);
        Due.is("37 none any more", x.cooled(-1, 0), 0);
        x.cooled(2, 0);
        Due.is("38 as bounded", x.whose(), 4);
        x.cooled(-1, 0);
        x.light(0);
        x.cooled(0, 3);
        Due.is("38 as now", x.whose(), 2 + 8);
        x.cooled(1, 1);
        Due.is("38 whatever its fire is", x.whose(), 2 + 8);
        for (int n = 3; n <= 8; n++) {
            Due.is("37 the " + n, x.cooled(0, 9), n);
        }
        Due.is("37 the ninth", x.cooled(0, 9), -2);
        Due.is("37 eight", x.about(5), 8);
    }

    private static void befalling() {
        CoverFires x = row(2);
        x.light(0);
        x.fetch(1, 0);
        x.warden(0);
        x.warden(1);
        x.cover(1);
        Due.is("39 lit", x.befell(-1, 0), 1);
        Due.is("39 fetched by 1", x.befell(1, 1), 1);
        Due.is("39 not by 0", x.befell(0, 1), 0);
        Due.is("39 fined", x.befell(-1, 5), 2);
        Due.is("39 fined, one", x.befell(1, 5), 1);
        Due.is("39 not told", x.befell(2, 0), -2);
        Due.is("39 below NONE", x.befell(-2, 0), -2);
        Due.is("39 what 6", x.befell(0, 6), -2);
        Due.is("39 what -1", x.befell(-1, -1), -2);
        x.by(Due.read(x, "cools 9; spreads 0;"));
        for (int i = 0; i < 15; i++) {
            x.hour(1);
            x.light(0);
        }
        Due.is("39 just the latest thirty", x.befell(-1, 1), 0);
        Due.is("39 thirty in all", x.befell(0, 0) + x.befell(0, 2) + x.befell(1, 2), 30);
    }

    private static void parts() {
        CoverFires x = new CoverFires();
        Due.is("40 without houses", x.parts(), 0);
        x.house(0, 0);
        Due.is("40 one", x.parts(), 1);
        x.house(0, 0);
        x.house(0, 0);
        x.house(0, 0);
        Due.is("40 four", x.parts(), 4);
        x.street(0, 3, 1);
        Due.is("40 three", x.parts(), 3);
        x.street(1, 2, 1);
        Due.is("40 two", x.parts(), 2);
        x.street(3, 2, 1);
        Due.is("40 joined", x.parts(), 1);
        x.street(3, 2, 0);
        Due.is("40 parted", x.parts(), 2);
    }

    private static void warmest() {
        CoverFires x = row(3);
        Due.is("41 no heat", x.warmest(), -1);
        x.light(1);
        Due.is("41 one", x.warmest(), 1);
        x.light(2);
        Due.is("41 of like ones", x.warmest(), 1);
        x.fetch(0, 1);
        Due.is("41 the other", x.warmest(), 2);
        x.hour(3);
        Due.is("41 all out", x.warmest(), -1);
    }

    private static void leavesAndKept() {
        CoverFires x = row(3);
        x.house(0, 0);
        Due.is("42 ends", x.leaves(), 5);
        x.street(0, 2, 1);
        Due.is("42 a ring", x.leaves(), 0);
        x.street(0, 2, 0);
        x.street(1, 3, 1);
        Due.is("42 a star", x.leaves(), 13);
        Due.is("43 none", x.kept(), 0);
        x.light(0);
        x.light(2);
        x.cover(2);
        Due.is("43 open and covered", x.kept(), 5);
        x.by(Due.read(x, "spreads if who = 0 then 10 else 0 end; cools if who = 0 then 0 else 9 end;"));
        x.hour(1);
        Due.is("43 neither one that burns nor one that is out", x.kept(), 0);
        Due.is("43 it burns", x.of(0, 2), 3);
    }

    private static void images() {
        CoverFires x = row(2);
        x.light(0);
        x.hour(2);
        Due.read(x, "cools 5;");
        x.by(0);
        x.warmth(3, -4);
        x.bid(1, 7);
        x.seen(0, 4, true);
        x.cooled(0, 5);
        Due.is("44 hour", x.image(), 2);
        x.undo();
        x.undo();
        x.undo();
        x.house(3, 3);
        x.street(0, 1, 40);
        Due.read(x, "cools 6;");
        Due.read(x, "light");
        x.feed(0, 0, 0, 0, 0);
        x.by(1);
        x.warmth(3, 4);
        x.bid(1, 0);
        x.seen(-1, 0, true);
        x.cooled(-1, 0);
        x.winters(5, 9);
        Due.is("45 hour", x.back(), 2);
        Due.is("45 is hour", x.is(0), 2);
        Due.is("45 houses", x.about(0), 2);
        Due.is("45 texts", x.about(1), 1);
        Due.is("45 THE TEXT", x.about(2), 0);
        Due.is("45 its law", x.of(0, 4), 5);
        Due.is("45 steps", x.about(3), 3);
        Due.is("45 far", x.far(0, 1), 1);
        Due.is("45 ring", x.ring(2), -4);
        Due.is("45 bids", x.leave(0, true), 7);
        Due.is("45 seen", x.about(4), 1);
        Due.is("45 began", x.began(1), 1);
        x.seen(-1, 0, true);
        x.seen(0, 4, false);
        x.back();
        Due.is("45 seen as it caught", x.began(1), 1);
        Due.is("45 cooled", x.about(5), 1);
        Due.is("45 heat", x.of(0, 3), 3);
        Due.is("45 book", x.book(-1, 0), 1);
        Due.is("45 the tape stays", x.about(6), 20);
        Due.is("45 the fault stays", x.fault(1), 5);
        Due.is("45 steps can be taken back", x.undo(), 2);
        Due.is("45 one hour less", x.is(0), 1);
        Due.is("45 the image stays", x.back(), 2);
        Due.is("45 steps again", x.undo(), 2);
        x.end(0);
        Due.is("45 a text where the other was", Due.read(x, "cools 7;"), 1);
        x.back();
        x.by(0);
        Due.is("45 the first is as it was", x.of(0, 4), 5);
    }

    private static void about() {
        CoverFires x = row(2);
        x.light(0);
        Due.read(x, "cools 1;");
        x.by(0);
        x.seen(0, 1, true);
        x.seen(0, 1, true);
        x.cooled(0, 1);
        x.feed(0, 0, 0, 0, 0);
        int[] due = {2, 1, 0, 1, 2, 1, 20};
        for (int what = 0; what < 7; what++) {
            Due.is("46 what " + what, x.about(what), due[what]);
        }
        Due.is("46 what 7", x.about(7), -2);
        Due.is("46 what -1", x.about(-1), -2);
    }
}
