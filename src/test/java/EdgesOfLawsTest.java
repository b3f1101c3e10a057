/** Section II, what laws say: sums, asks, NAMES, and the bounds of cools, spreads, fine. */
public final class EdgesOfLawsTest {
    public static void main(String[] args) {
        oneMillion();
        oneMillionBelow();
        atEachStep();
        dividing();
        fromTheLeft();
        oddAndEven();
        unlike();
        bothSides();
        sidesOfAllKinds();
        whatIsChosen();
        warmOfWhom();
        warmAsItIs();
        nameOfTheHour();
        namesOfTheHouse();
        nearAndPurse();
        boundsOfCools();
        boundsOfSpreads();
        boundsOfFine();
        withoutALaw();
        lawsOnTheirOwn();
        boundsInAnHour();
        Due.finish();
    }

    /** What a fine law answers for HOUSE 1 of three; 0 is lit. */
    private static void value(String sum, int due) {
        CoverFires x = Edge.fresh();
        x.house(3, 5);
        x.house(4, 7);
        x.house(9, 9);
        x.street(0, 1, 1);
        x.light(0);
        Edge.rule(x, "fine " + sum + ";");
        Due.is("19 fine " + sum, x.of(1, 6), due);
    }

    private static void ask(String ask, boolean due) {
        value("if " + ask + " then 1 else 2 end", due ? 1 : 2);
        value("if not " + ask + " then 1 else 2 end", due ? 2 : 1);
    }

    /** "what is above 1000000 .. is that": 1000000 itself stays, and 999999 (999 * 1001). */
    private static void oneMillion() {
        value("999*1001-999*1000", 999);
        value("1000*1000-999*1001", 1);
        value("999*1001+1-999*1001", 1);
        value("999*1001+2-999*1001", 1);
        value("1000*1000+1-999*1001", 1);
        value("1000*1000+9999-999*1001", 1);
        value("1001*1000-999*1001", 1);
        value("1000*1000-(0-1)-999*1001", 1);
        value("9999*9999-999*1001", 1);
        value("-9999*-9999-999*1001", 1);
        value("1000*1000*(1000*1000)-999*1001", 1);
        value("-(-1000*1000)-999*1001", 1);
        value("-(0-9999*9999)-999*1001", 1);
        ask("1000*1000+1=1000*1000", true);
        ask("1000*1000>999*1001", true);
        ask("999*1001+1=1000*1000", true);
    }

    /** "(below the same less)". */
    private static void oneMillionBelow() {
        value("0-999*1001+1000*1000+5", 6);
        value("0-1000*1000+1000*1000+5", 5);
        value("0-1000*1000-1+1000*1000+5", 5);
        value("0-999*1001-1+1000*1000+5", 5);
        value("0-999*1001-2+1000*1000+5", 5);
        value("-1000*1000-9999+1000*1000+5", 5);
        value("-1000*1001+1000*1000+5", 5);
        value("9999*-9999+1000*1000+5", 5);
        value("0-1000*1000+(0-1)+1000*1000+5", 5);
        value("-(9999*9999)+1000*1000+5", 5);
        ask("-1000*1000-1=-1000*1000", true);
        ask("-1000*1000<-999*1001", true);
        ask("-1000*1000*1000=-1000*1000", true);
    }

    /** "at each step": not just in the end. */
    private static void atEachStep() {
        value("1000*1000+1000-1000-999*1000", 0);
        value("1000*1000+1000-1000-998*1000", 1000);
        value("1000*1000*2/2000", 500);
        value("9999*9999/9999", 100);
        value("(1000*1000+1000*1000)/1000", 1000);
        value("1000*1000*1000/1000/1000", 1);
        value("(0-1000*1000-1000*1000)/-1000", 1000);
        value("1000*1000*-1000/-1000", 1000);
        value("1000*1000*0+7", 7);
    }

    /** "/ cuts towards 0, by 0 it is 0". */
    private static void dividing() {
        value("8/2", 4);
        value("7/2", 3);
        value("1/2+5", 5);
        value("-1/2+5", 5);
        value("-7/2+5", 2);
        value("7/-2+5", 2);
        value("-7/-2+5", 8);
        value("-8/2+5", 1);
        value("1/1", 1);
        value("5/0+3", 3);
        value("-5/0+3", 3);
        value("0/0+3", 3);
        value("0/5+3", 3);
        value("5/(1-1)+3", 3);
        value("5/0/0+3", 3);
        value("6/0*9+3", 3);
        value("1000*1000/-1+1000*1000+5", 5);
        value("-1000*1000/-1/1000", 1000);
        value("9999/9999", 1);
        value("9998/9999+1", 1);
    }

    /** "From the left". */
    private static void fromTheLeft() {
        value("20-5-3", 12);
        value("20-5+3", 18);
        value("20-(5+3)", 12);
        value("100/10/2", 5);
        value("100/(10/2)", 20);
        value("100/10*2", 20);
        value("7/2*2", 6);
        value("2*7/2", 7);
        value("7*(1/2)", 0);
        value("2+3*4-1", 13);
        value("2*3+4*5", 26);
        value("20-2*3-4", 10);
        value("20-12/4/3", 19);
        value("-2+5", 3);
        value("-2*3+10", 4);
        value("10-2*-3", 16);
        value("10--3", 13);
        value("10---3", 7);
        value("-(2-5)", 3);
        value("-if 1<2 then 3 else 4 end+10", 7);
        value("if 1<2 then 3 else 4 end*5", 15);
    }

    private static void oddAndEven() {
        for (int n = -5; n <= 5; n++) {
            ask("odd " + n, n % 2 != 0);
            ask("even " + n, n % 2 == 0);
        }
        ask("odd 9999", true);
        ask("even 1000*1000", true);
        ask("even -1000*1000", true);
        ask("odd 999*1001", true);
        ask("odd 1000*1000+1", false);
        ask("odd 2+1", true);
        ask("even 3*2", true);
        ask("odd warm 0", true);
        ask("even warm 1", true);
    }

    /** "< <= > >= = # (unlike)", one less, alike, one more. */
    private static void unlike() {
        for (int a = -1; a <= 1; a++) {
            for (int b = -1; b <= 1; b++) {
                ask(a + "<" + b, a < b);
                ask(a + "<=" + b, a <= b);
                ask(a + ">" + b, a > b);
                ask(a + ">=" + b, a >= b);
                ask(a + "=" + b, a == b);
                ask(a + "#" + b, a != b);
            }
        }
        ask("1+2<2*2", true);
        ask("1+3<2*2", false);
        ask("9999>=9999", true);
        ask("9998>=9999", false);
    }

    /** "or and and look at both sides always": and binds more than or, not more than and. */
    private static void bothSides() {
        String[] sides = {"odd 2", "odd 1"};
        for (int a = 0; a < 2; a++) {
            for (int b = 0; b < 2; b++) {
                sides(sides[a] + " or " + sides[b], a | b);
                sides(sides[a] + " and " + sides[b], a & b);
                sides("not " + sides[a] + " and " + sides[b], (1 - a) & b);
                sides("not " + sides[a] + " or " + sides[b], (1 - a) | b);
                for (int c = 0; c < 2; c++) {
                    sides(sides[a] + " or " + sides[b] + " and " + sides[c], a | b & c);
                    sides(sides[a] + " and " + sides[b] + " or " + sides[c], a & b | c);
                    sides(sides[a] + " and " + sides[b] + " and " + sides[c], a & b & c);
                    sides(sides[a] + " or " + sides[b] + " or " + sides[c], a | b | c);
                }
            }
        }
    }

    /** Sides of all kinds beside one another. */
    private static void sidesOfAllKinds() {
        String[] so = {"1<2", "1<=2", "2>1", "2>=1", "2=2", "1#2", "odd 1", "even 2", "not 1=2", "not not 1=1"};
        String[] notSo = {"2<1", "2<=1", "1>2", "1>=2", "1=2", "2#2", "odd 2", "even 1", "not 1=1", "not not 1=2"};
        for (String one : so) {
            for (int i = 0; i < so.length; i++) {
                sides(one + " and " + so[i], 1);
                sides(one + " and " + notSo[i], 0);
                sides(notSo[i] + " or " + one, 1);
                sides(notSo[i] + " and " + one, 0);
                sides(one + " or " + so[i], 1);
            }
        }
        for (String one : notSo) {
            for (String other : notSo) {
                sides(one + " or " + other, 0);
                sides("not " + one + " and not " + other, 1);
            }
        }
    }

    private static void sides(String ask, int due) {
        value("if " + ask + " then 1 else 2 end", due == 1 ? 1 : 2);
    }

    /** "of if just the SUM that is chosen is asked". */
    private static void whatIsChosen() {
        value("if 1=1 then 3 else 9999*9999 end", 3);
        value("if 1=2 then 9999*9999 else 4 end", 4);
        value("if 1=1 then if 1=2 then 5 else 6 end else 7 end", 6);
        value("if 1=2 then 5 else if 1=1 then 6 else 7 end end", 6);
        value("if if 1=1 then 2 else 3 end = 2 then 8 else 9 end", 8);
        value("if 1=1 then 1 else 2 end + if 1=2 then 10 else 20 end", 21);
        value("100 - if 1=2 then 10 else 20 end * 2", 60);
    }

    /** "warm ONE (HEAT of the HOUSE of that number; 0 if none such is told)". */
    private static void warmOfWhom() {
        value("warm 0", 9);
        value("1+warm 1", 1);
        value("1+warm 2", 1);
        value("1+warm 3", 1);
        value("1+warm 7", 1);
        value("1+warm 8", 1);
        value("1+warm 9999", 1);
        value("1+warm -1", 1);
        value("1+warm (0-1)", 1);
        value("1+warm (1000*1000)", 1);
        value("1+warm (-1000*1000)", 1);
        value("warm (who-1)", 9);
        value("warm warm 1", 9);
        value("1+warm warm 0", 1);
        value("warm 0*2", 18);
        value("warm 0+1", 10);
        value("warm -0", 9);
        value("warm if 1=1 then 0 else 1 end", 9);
        CoverFires x = Edge.houses(8);
        Edge.rule(x, "fine 1+warm 7;");
        Due.is("19 the last, cold", x.of(0, 6), 1);
        x.light(7);
        Due.is("19 the last, lit", x.of(0, 6), 10);
        CoverFires y = Edge.houses(7);
        Edge.rule(y, "fine 1+warm 7;");
        Due.is("19 not told yet", y.of(0, 6), 1);
        y.house(0, 0);
        y.light(7);
        Due.is("19 told", y.of(0, 6), 10);
    }

    private static void warmAsItIs() {
        CoverFires x = Edge.fires();
        Edge.rule(x, "fine 1+warm who;");
        int[] due = {1, 10, 10, 10, 1, 1};
        for (int h = 0; h < 6; h++) {
            Due.is("19 warm at fire " + x.of(h, 2), x.of(h, 6), due[h]);
        }
        x.fetch(5, 1);
        Due.is("19 one less there", x.of(1, 6), 9);
        Due.is("19 five here", x.of(5, 6), 6);
    }

    /** "hour, bell (1, 0), wind". */
    private static void nameOfTheHour() {
        CoverFires x = Edge.houses(1);
        Edge.rule(x, "fine hour; cools bell; spreads wind;");
        int wind = 0;
        int at = 163;
        for (int hour = 0; hour < 50; hour++) {
            Due.is("19 hour", x.of(0, 6), hour);
            Due.is("19 bell at " + hour, x.of(0, 4), hour < 6 || hour >= 20 && hour < 30 || hour >= 44 ? 1 : 0);
            Due.is("19 wind", x.of(0, 5), wind);
            wind = at % 10;
            at = (at * 397 + 277) % 30497;
            x.hour(1);
        }
        CoverFires y = Edge.late();
        Edge.rule(y, "fine hour; cools 5 + bell;");
        Due.is("19 the last hour", y.of(0, 6), 9999);
        Due.is("19 no bell", y.of(0, 4), 5);
    }

    /** "who (its number), wood, fire, heat". */
    private static void namesOfTheHouse() {
        CoverFires x = Edge.fires();
        Edge.rule(x, "fine 1000 * who + 100 * wood + 10 * fire + heat;");
        int[] due = {400, 1419, 2429, 3439, 4440, 5400};
        for (int h = 0; h < 6; h++) {
            Due.is("19 names of " + h, x.of(h, 6), due[h]);
        }
        CoverFires z = Edge.fresh();
        for (int h = 0; h < 8; h++) {
            z.house(h + h / 7 * 2, 0);
        }
        Edge.rule(z, "fine 100 * who + wood;");
        for (int h = 0; h < 7; h++) {
            Due.is("19 who and wood of " + h, z.of(h, 6), 101 * h);
        }
        Due.is("19 who and wood of the last", z.of(7, 6), 709);
    }

    /** "near (how many HOUSES that a STREET leads to burn) in all; purse (COINS) in fine". */
    private static void nearAndPurse() {
        CoverFires x = Edge.fires();
        Edge.rule(x, "fine 100 * purse + near; cools 2 + near; spreads 3 + near;");
        for (int h = 0; h < 6; h++) {
            int near = h == 2 || h == 5 ? 1 : 0;
            Due.is("19 fine of " + h, x.of(h, 6), 3000 + near);
            Due.is("19 cools of " + h, x.of(h, 4), 2 + near);
            Due.is("19 spreads of " + h, x.of(h, 5), 3 + near);
        }
        Due.is("14 near, purse ahead of the fine", x.warden(2), 30);
        Due.is("19 purse behind it", x.of(2, 6), 1);
        CoverFires y = Edge.fresh();
        y.house(0, 9999);
        y.house(0, 0);
        Edge.rule(y, "fine purse;");
        Due.is("19 the most", y.of(0, 6), 9999);
        Due.is("19 the least", y.of(1, 6), 0);
    }

    private static void bound(String law, int what, String sum, int due) {
        CoverFires x = Edge.fires();
        Edge.rule(x, law + " " + sum + ";");
        for (int h = 0; h < 6; h++) {
            Due.is("19 " + law + " " + sum + " of " + h, x.of(h, what), due);
        }
    }

    /** "cools: 0 at least, 9 at most". */
    private static void boundsOfCools() {
        for (int n = 0; n <= 9; n++) {
            bound("cools", 4, String.valueOf(n), n);
        }
        bound("cools", 4, "-1", 0);
        bound("cools", 4, "10", 9);
        bound("cools", 4, "9999", 9);
        bound("cools", 4, "9999*9999", 9);
        bound("cools", 4, "-9999*9999", 0);
    }

    /** "spreads (the odds of 10): 0 at least, 10 at most". */
    private static void boundsOfSpreads() {
        for (int n = 0; n <= 10; n++) {
            bound("spreads", 5, String.valueOf(n), n);
        }
        bound("spreads", 5, "-1", 0);
        bound("spreads", 5, "11", 10);
        bound("spreads", 5, "9999*9999", 10);
        bound("spreads", 5, "-9999*9999", 0);
    }

    /** "fine: 0 at least, 9999 at most". */
    private static void boundsOfFine() {
        for (int n : new int[] {0, 1, 10, 30, 31, 9998, 9999}) {
            bound("fine", 6, String.valueOf(n), n);
        }
        bound("fine", 6, "-1", 0);
        bound("fine", 6, "9999+1", 9999);
        bound("fine", 6, "9999*9999", 9999);
        bound("fine", 6, "-9999*9999", 0);
    }

    /** "without: of an open one 3, else 1"; "WOOD by 2, cut, and near together if the FIRE is open, else WOOD by 4, cut". */
    private static void withoutALaw() {
        CoverFires x = Edge.fires();
        int[] cools = {1, 1, 3, 1, 1, 1};
        int[] spreads = {1, 1, 3, 1, 1, 1};
        for (int h = 0; h < 6; h++) {
            Due.is("19 cools without, fire " + x.of(h, 2), x.of(h, 4), cools[h]);
            Due.is("19 spreads without, fire " + x.of(h, 2), x.of(h, 5), spreads[h]);
            Due.is("19 fine without, fire " + x.of(h, 2), x.of(h, 6), 10);
        }
        x.quench(3);
        Due.is("19 none near any more", x.of(2, 5), 2);
        int[] byTwo = {0, 0, 1, 1, 2, 2, 3, 3, 4, 4};
        int[] byFour = {0, 0, 0, 0, 1, 1, 1, 1, 2, 2};
        for (int wood = 0; wood <= 9; wood++) {
            CoverFires y = Edge.fresh();
            y.house(wood, 0);
            Due.is("19 out, wood " + wood, y.of(0, 5), byFour[wood]);
            y.light(0);
            Due.is("19 open, wood " + wood, y.of(0, 5), byTwo[wood]);
            y.cover(0);
            Due.is("19 covered, wood " + wood, y.of(0, 5), byFour[wood]);
        }
    }

    /** A TEXT that is without a law leaves it as it is without. */
    private static void lawsOnTheirOwn() {
        String[] laws = {"cools 7;", "spreads 8;", "fine 9;"};
        int[] own = {7, 8, 9};
        int[] without = {3, 3, 10};
        for (int set = 0; set < 8; set++) {
            CoverFires x = Edge.fires();
            String text = "";
            for (int law = 2; law >= 0; law--) {
                text += (set >> law & 1) == 1 ? laws[law] : "";
            }
            Edge.rule(x, text);
            for (int law = 0; law < 3; law++) {
                Due.is("19 [" + text + "] " + law, x.of(2, 4 + law), (set >> law & 1) == 1 ? own[law] : without[law]);
            }
            x.by(-1);
            for (int law = 0; law < 3; law++) {
                Due.is("19 none, " + law, x.of(2, 4 + law), without[law]);
            }
        }
    }

    /** The bounds hold where the laws are used, too. */
    private static void boundsInAnHour() {
        CoverFires x = Edge.houses(2);
        Edge.rule(x, "cools 0-5; spreads 0-5; fine 0-5;");
        x.light(0);
        x.hour(1);
        Due.is("15 no warmer than it was", x.of(0, 3), 9);
        Due.is("15 never caught", x.hour(4), 0);
        Due.is("14 no coins are given", x.warden(0), 0);
        Due.is("14 coins", x.of(0, 1), 20);
        CoverFires y = Edge.houses(2);
        Edge.rule(y, "cools 9999; spreads 9999; fine 9999;");
        y.light(0);
        Due.is("14 coins at most", y.warden(0), 20);
        Due.is("15 out, not caught", y.hour(1), 0);
        Due.is("15 no colder than cold", y.of(0, 3), 0);
        Due.is("38 as bounded, too", whoseOf(y, 9), 1);
        Due.is("38 not beyond it", whoseOf(x, 9), 0);
        Due.is("38 not below it", whoseOf(x, 0), 1);
    }

    private static int whoseOf(CoverFires x, int by) {
        x.cooled(-1, 0);
        x.cooled(0, by);
        return x.whose();
    }
}
