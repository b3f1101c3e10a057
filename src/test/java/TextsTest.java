/** Promises 4 to 8, and what section II says of texts. */
public final class TextsTest {
    private static final int MOST = Integer.MAX_VALUE;

    public static void main(String[] args) {
        feeding();
        ending();
        reading();
        latestFault();
        ruling();
        tokens();
        clauses();
        faultsOfPlace();
        faultsOfNumbers();
        faultsOfDepth();
        faultsOfLaws();
        faultsOfMany();
        leastFault();
        sums();
        asks();
        names();
        limits();
        Due.finish();
    }

    private static void feeding() {
        CoverFires x = new CoverFires();
        Due.is("4 twenty", x.feed(0, -1, 1, 2, 3), 20);
        for (int n = 40; n <= 300; n += 20) {
            Due.is("4 to " + n, x.feed(0, 0, 0, 0, 0), n);
        }
        Due.is("4 more than 300", x.feed(0, 0, 0, 0, 0), -1);
        Due.is("4 none came", x.about(6), 300);
        x.end(281);
        Due.is("4 281 and 20", x.feed(0, 0, 0, 0, 0), -1);
        x.end(280);
        Due.is("4 280 and 20", x.feed(0, 0, 0, 0, 0), 300);
        CoverFires y = new CoverFires();
        // "ligh" "t 0;" and then blanks: the highest byte is the first
        y.feed(0x6c696768, 0x7420303b, 0x20202020, 0x0a0a0a0a, 0x20202020);
        Due.is("4 the highest first", y.text(), 0);
    }

    private static void ending() {
        CoverFires x = new CoverFires();
        Due.is("5 empty", x.end(0), 0);
        Due.is("5 not so many", x.end(1), -1);
        x.feed(0, 0, 0, 0, 0);
        Due.is("5 all", x.end(20), 20);
        Due.is("5 one too many", x.end(21), -1);
        Due.is("5 most", x.end(MOST), -1);
        Due.is("5 below", x.end(-1), -1);
        Due.is("5 nothing is done", x.about(6), 20);
        Due.is("5 three", x.end(3), 3);
        Due.is("5 three alone", x.about(6), 3);
        Due.is("5 no more than that", x.end(4), -1);
    }

    private static void reading() {
        CoverFires x = new CoverFires();
        Due.is("6 the empty tape", x.text(), 0);
        Due.is("6 a text", Due.read(x, "light 0;"), 1);
        Due.is("6 the tape is empty then", x.about(6), 0);
        Due.is("6 a fault", Due.read(x, "light;"), -1);
        Due.is("6 the tape is empty behind a fault", x.about(6), 0);
        Due.is("6 third", Due.read(x, "\n hour 1 ;  "), 2);
        Due.is("6 fourth", Due.read(x, "cools 1;"), 3);
        Due.is("6 there are four", Due.read(x, "cools 1;"), -1);
        Due.is("6 the tape stays", x.about(6), 8);
        Due.is("6 four", x.about(1), 4);
        x.back();
        Due.is("6 the tape stays by back", x.about(6), 8);
        Due.is("6 there is room again", x.text(), 0);
    }

    private static void latestFault() {
        CoverFires x = new CoverFires();
        Due.is("7 ahead of any", x.fault(0), -1);
        Due.is("7 place ahead of any", x.fault(1), -1);
        Due.read(x, "light");
        Due.is("7 fault", x.fault(0), 1);
        Due.is("7 place", x.fault(1), 5);
        Due.is("7 what 2", x.fault(2), -1);
        Due.is("7 what -1", x.fault(-1), -1);
        x.back();
        Due.is("7 stays by back", x.fault(1), 5);
        Due.read(x, "light 0;");
        Due.is("7 without", x.fault(0), 0);
        Due.is("7 no place", x.fault(1), -1);
        Due.read(x, ";");
        Due.read(x, "");
        Due.read(x, "");
        Due.read(x, "");
        Due.read(x, ";");
        Due.is("7 of the latest that was read", x.fault(0), 0);
    }

    private static void ruling() {
        CoverFires x = new CoverFires();
        x.house(0, 0);
        Due.is("8 none told", x.by(0), false);
        Due.is("8 NONE", x.by(-1), true);
        Due.read(x, "cools 7;");
        Due.is("8 told", x.by(0), true);
        Due.is("8 rules", x.of(0, 4), 7);
        Due.is("8 others", x.by(1), false);
        Due.is("8 below", x.by(-2), false);
        Due.is("8 most", x.by(MOST), false);
        Due.is("8 the same yet", x.about(2), 0);
        Due.is("8 none again", x.by(-1), true);
        Due.is("8 none rules", x.of(0, 4), 1);
        Due.is("8 about", x.about(2), -1);
        Due.is("8 no step", x.about(3), 0);
    }

    private static void good(String text) {
        CoverFires x = new CoverFires();
        Due.is("6 [" + text + "]", Due.read(x, text), 0);
        Due.is("7 [" + text + "]", x.fault(0), 0);
    }

    private static void bad(String text, int fault, int place) {
        CoverFires x = new CoverFires();
        Due.is("6 [" + text + "]", Due.read(x, text), -1);
        Due.is("7 fault of [" + text + "]", x.fault(0), fault);
        Due.is("7 place in [" + text + "]", x.fault(1), place);
    }

    private static void tokens() {
        good("light0;");
        good("light 0000000000000000000000007;");
        good("house1coins2;");
        good("fine(1)+2;");
        good("cools if 1<=2 and 1>=2 or 1#2 and not 1=2 then 1 else 2 end;");
        good("cools if 1<-1 then 1 else 2 end;");
        bad("cools if 1< =2 then 1 else 2 end;", 1, 12);
        bad("cools if 1=<2 then 1 else 2 end;", 1, 11);
        bad("light 0 0;", 1, 8);
        bad("lights 0;", 1, 0);
        bad("Light 0;", 1, 0);
        bad("lig ht 0;", 1, 0);
        bad("light\t0;", 1, 5);
        bad("light\r0;", 1, 5);
        bad("light 0;" + (char) 0, 1, 8);
        bad("light 0;" + (char) 233, 1, 8);
        bad("light 0; .", 1, 9);
        bad("spreadsspreads 1;", 1, 0);
        bad("cools 1%2;", 1, 7);
        bad("cools 1_2;", 1, 7);
    }

    private static void clauses() {
        good("cools 1;spreads 2;fine 3;house 9 coins 9999;street 7 to 7 of 0;light 7;cover 7;open 7;"
                + "fetch 7 from 7;quench 7;warden 7;hour 60;");
        bad(";", 1, 0);
        bad("bell 1;", 1, 0);
        bad("coins 1;", 1, 0);
        bad("1;", 1, 0);
        bad("house 1 2;", 1, 8);
        bad("house 1 coins;", 1, 13);
        bad("street 1 from 2 of 3;", 1, 9);
        bad("street 1 to 2 to 3;", 1, 14);
        bad("fetch 1 to 2;", 1, 8);
        bad("hour;", 1, 4);
        bad("hour wind;", 1, 5);
        bad("light -1;", 1, 6);
        bad("light (1);", 1, 6);
    }

    private static void faultsOfPlace() {
        bad("cools", 1, 5);
        bad("cools   ", 1, 8);
        bad("cools 1", 1, 7);
        bad("cools;", 1, 5);
        bad("cools 1+;", 1, 8);
        bad("cools *1;", 1, 6);
        bad("cools +1;", 1, 6);
        bad("cools (1;", 1, 8);
        bad("cools 1);", 1, 7);
        bad("cools ();", 1, 7);
        bad("cools 1 2;", 1, 8);
        bad("cools warm;", 1, 10);
        bad("cools not 1;", 1, 6);
        bad("cools odd 1;", 1, 6);
        bad("cools light;", 1, 6);
        bad("cools fine;", 1, 6);
        bad("cools 1 = 1;", 1, 8);
        bad("cools if 1 then 1 else 1 end;", 1, 11);
        bad("cools if 1 < 2 < 3 then 1 else 1 end;", 1, 15);
        bad("cools if (1 < 2) then 1 else 1 end;", 1, 12);
        bad("cools if odd 1 = 1 then 1 else 1 end;", 1, 15);
        bad("cools if odd 1 then 1 end;", 1, 22);
        bad("cools if odd 1 else 1 end;", 1, 15);
        bad("cools if odd 1 then 1 else 1;", 1, 28);
        bad("cools if odd 1 or then 1 else 1 end;", 1, 18);
        bad("cools if odd 1 and and odd 1 then 1 else 1 end;", 1, 19);
        bad("cools 1;;", 1, 8);
    }

    private static void faultsOfNumbers() {
        good("cools 9999;");
        bad("cools 10000;", 2, 6);
        bad("cools 99999999999999999999;", 2, 6);
        bad("cools 1+10000;", 2, 8);
        bad("house 10 coins 1;", 2, 6);
        bad("house 9 coins 10000;", 2, 14);
        bad("street 8 to 1 of 1;", 2, 7);
        bad("street 1 to 8 of 1;", 2, 12);
        bad("street 1 to 2 of 100;", 2, 17);
        bad("light 8;", 2, 6);
        bad("cover 8;", 2, 6);
        bad("open 8;", 2, 5);
        bad("fetch 8 from 1;", 2, 6);
        bad("fetch 1 from 8;", 2, 13);
        bad("quench 8;", 2, 7);
        bad("warden 8;", 2, 7);
        bad("hour 0;", 2, 5);
        bad("hour 61;", 2, 5);
    }

    private static void faultsOfDepth() {
        good("cools ((((((((1))))))));");
        bad("cools (((((((((1)))))))));", 3, 14);
        good("cools 1--------1;");
        bad("cools ---------1;", 3, 14);
        good("cools warm warm warm warm warm warm warm warm 1;");
        bad("cools warm warm warm warm warm warm warm warm warm 1;", 3, 46);
        good("cools if not not not not not not not 1<2 then 1 else 2 end;");
        bad("cools if not not not not not not not not 1<2 then 1 else 2 end;", 3, 37);
        bad("cools ((((warm warm -(-1)))));", 3, 22);
        bad("cools ((((((((if 1<2 then 1 else 2 end;", 3, 14);
        good("cools ((((((((1))))))))+((((((((1))))))))-(((((((-1)))))));");
        good("cools if 1<2 then 1 else 2 end+if 1<2 then 1 else 2 end;");
        bad("cools (((((((if 1<2 then (1) else 2 end;", 3, 25);
        bad("cools (((((((if (1)<2 then 1 else 2 end;", 3, 16);
        bad("cools (((((((if 1<2 then 1 else (2) end;", 3, 32);
        good("cools (((((((if 1<2 then 1 else 2 end)))))));");
    }

    private static void faultsOfLaws() {
        bad("cools 1;cools 1;", 4, 8);
        bad("spreads 1;cools 1;spreads", 4, 18);
        bad("fine 1;fine", 4, 7);
        good("cools 1;fine 1;spreads 1;");
        bad("cools purse;", 5, 6);
        bad("spreads 1+purse;", 5, 10);
        good("fine purse;");
        bad("fine 1;cools purse;", 5, 13);
        bad("light purse;", 1, 6);
        bad("cools 1 purse;", 1, 8);
    }

    private static void faultsOfMany() {
        StringBuilder text = new StringBuilder();
        for (int i = 0; i < 24; i++) {
            text.append("hour 1;");
        }
        good(text.toString());
        bad(text + "hour 1;", 6, 168);
        bad(text + "cools", 6, 168);
        bad(text + "!", 1, 168);
        bad(text + "1", 1, 168);
        bad(text.substring(0, 23 * 7) + "fine 1;fine", 4, 168);
        bad(text.substring(0, 23 * 7) + "hour 1", 1, 167);
    }

    private static void leastFault() {
        bad("light 0 10000;", 1, 8);
        bad("10000", 1, 0);
        bad("cools 1 (((((((((", 1, 8);
        bad("light 8 ! cools purse;", 2, 6);
        bad("cools ((((((((1 (;", 1, 16);
    }

    /** What a fine law answers for house 1 of three (wood 4, 7 coins; 0 is lit). */
    private static void value(String sum, int due) {
        CoverFires x = new CoverFires();
        x.house(3, 5);
        x.house(4, 7);
        x.house(9, 9);
        x.street(0, 1, 1);
        x.light(0);
        x.by(Due.read(x, "fine " + sum + ";"));
        Due.is("fine " + sum, x.of(1, 6), due);
    }

    private static void sums() {
        value("2+3*4", 14);
        value("20-5-3", 12);
        value("100/5/2", 10);
        value("100/5*2", 40);
        value("(2+3)*4", 20);
        value("7/2", 3);
        value("10+(-7)/2", 7);
        value("10+-7/2", 7);
        value("10-7/-2", 13);
        value("5/0+3", 3);
        value("-3*-4", 12);
        value("--5", 5);
        value("2*-3+20", 14);
        value("warm 0", 9);
        value("warm 1+4", 4);
        value("warm (1-1)", 9);
        value("1+warm 3", 1);
        value("1+warm 7", 1);
        value("1+warm -1", 1);
        value("warm -0*2", 18);
        value("if 1<2 then 3 else 4 end", 3);
        value("if 2<1 then 3 else 4 end", 4);
        value("if 2<1 then 3 else if 1<2 then 5 else 6 end end*2+1", 11);
        value("if 1<2 then if 2<1 then 7 else 8 end else 4 end", 8);
    }

    private static void ask(String ask, boolean due) {
        value("if " + ask + " then 1 else 2 end", due ? 1 : 2);
    }

    private static void asks() {
        ask("odd 3", true);
        ask("odd 4", false);
        ask("odd 0", false);
        ask("odd -3", true);
        ask("even 4", true);
        ask("even 3", false);
        ask("even -2", true);
        ask("even 0", true);
        ask("odd 1+1", false);
        ask("1 < 2", true);
        ask("2 < 2", false);
        ask("2 <= 2", true);
        ask("3 <= 2", false);
        ask("3 > 2", true);
        ask("2 > 2", false);
        ask("2 >= 2", true);
        ask("1 >= 2", false);
        ask("2 = 2", true);
        ask("2 = 3", false);
        ask("2 # 3", true);
        ask("2 # 2", false);
        ask("not 2 # 2", true);
        ask("not odd 1", false);
        ask("not odd 2 and odd 1", true);
        ask("not not odd 1", true);
        ask("odd 1 and odd 2", false);
        ask("odd 2 and odd 1", false);
        ask("odd 1 and odd 3", true);
        ask("odd 1 or odd 2", true);
        ask("odd 2 or odd 1", true);
        ask("odd 2 or odd 4", false);
        ask("odd 1 or odd 1 and odd 2", true);
        ask("odd 2 and odd 2 or odd 1", true);
        ask("not odd 2 and odd 2", false);
        ask("not odd 1 or odd 1", true);
    }

    private static void names() {
        value("hour", 0);
        value("bell", 1);
        value("1+wind", 1);
        value("who", 1);
        value("wood", 4);
        value("1+fire", 1);
        value("1+heat", 1);
        value("1+near", 1);
        value("purse", 7);
        CoverFires x = new CoverFires();
        x.house(1, 1);
        x.house(1, 1);
        x.street(0, 1, 1);
        x.by(Due.read(x, "cools hour; fine 1000*heat+100*near+10*fire+wind; spreads 10*bell;"));
        x.light(0);
        x.hour(1);
        // it burns with heat 9 (cools was 0), wind 3
        Due.is("of one that burns", x.of(0, 6), 9033);
        Due.is("of one beside it", x.of(1, 6), 103);
        Due.is("cools by hour", x.of(0, 4), 1);
        x.hour(5);
        Due.is("spreads without bell", x.of(0, 5), 0);
        CoverFires y = new CoverFires();
        y.house(0, 0);
        y.by(Due.read(y, "cools hour + wind; spreads 0;"));
        y.light(0);
        y.hour(1);
        Due.is("in an hour: wind anew, the hour not yet", y.of(0, 3), 6);
        CoverFires z = new CoverFires();
        z.house(0, 0);
        z.house(0, 0);
        z.by(Due.read(z, "cools if who = 0 then 4 else warm 0 end; spreads 0;"));
        z.light(0);
        z.light(1);
        z.hour(1);
        Due.is("laws as all is then", z.of(1, 3), 4);
    }

    private static void limits() {
        value("(9999*9999-999*1001)*100", 100);
        value("999*1001+1-999*1001", 1);
        value("9999*9999/1000", 1000);
        value("9999*9999+9999-999*1001", 1);
        value("0-9999*9999+999*1001+2", 1);
        value("(0-9999*9999-9999)/-1000", 1000);
        value("9999*9999*-9999/-1000", 1000);
        value("9999*9999*(9999*9999)/1000", 1000);
        value("9999+1", 9999);
        value("0-1", 0);
    }
}
