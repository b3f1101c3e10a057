/** Section II and promises 4 to 8: each sentence that names an edge, within and beyond it. */
public final class EdgesOfTextsTest {
    private static final int LEAST = Edge.LEAST;
    private static final int MOST = Edge.MOST;

    public static void main(String[] args) {
        feedUpTo300();
        highestFirst();
        endWithin();
        endCutsForGood();
        textsUpToFour();
        aFaultIsNoText();
        faultOfTheLatest();
        byWhatIsTold();
        everyByteBehind();
        everyByteBetween();
        theLongest();
        threeHundredBytes();
        threeHundredTokens();
        cutShort();
        spoilt();
        placesOfNumbers();
        greatNumbers();
        numbersAsTold();
        depthOfEach();
        depthIsLeft();
        secondLaws();
        namesOfLaws();
        clausesUpTo24();
        theFirstFault();
        ofOneTheLeast();
        Due.finish();
    }

    private static void good(String text) {
        CoverFires x = Edge.fresh();
        String name = "[" + text + "]";
        Due.is("6 " + name, Due.read(x, text), 0);
        Due.is("7 fault " + name, x.fault(0), 0);
        Due.is("7 place " + name, x.fault(1), -1);
        Due.is("6 tape " + name, x.about(6), 0);
        Due.is("6 texts " + name, x.about(1), 1);
    }

    private static void bad(String text, int fault, int place) {
        CoverFires x = Edge.fresh();
        String name = "[" + text + "]";
        Due.is("6 " + name, Due.read(x, text), -1);
        Due.is("7 fault " + name, x.fault(0), fault);
        Due.is("7 place " + name, x.fault(1), place);
        Due.is("6 texts " + name, x.about(1), 0);
    }

    /** "NONE, and none come, if there would be more than 300." */
    private static void feedUpTo300() {
        for (int n : new int[] {0, 1, 19, 20, 260, 279, 280}) {
            CoverFires x = taped(n);
            Due.is("4 behind " + n, x.feed(0, 0, 0, 0, 0), n + 20);
            Due.is("46 bytes", x.about(6), n + 20);
        }
        for (int n : new int[] {281, 282, 299, 300}) {
            Edge.still("4 behind " + n, () -> taped(n), x -> x.feed(0x3b3b3b3b, 0, 0, 0, 0), -1);
        }
    }

    /** Blanks, but for what would be a FAULT at the last byte. */
    private static CoverFires taped(int n) {
        CoverFires x = Edge.fresh();
        Due.tape(x, n > 0 ? " ".repeat(n - 1) + ";" : "");
        return x;
    }

    /** "Twenty bytes come behind the tape, the highest of a first". */
    private static void highestFirst() {
        CoverFires x = Edge.fresh();
        Due.is("4 twenty", x.feed(0x73747265, 0x65742031, 0x20746f20, 0x32206f66, 0x2033343b), 20);
        Due.is("4 street 1 to 2 of 34;", x.text(), 0);
        String twenty = "house 4 coins 1234 ;";
        CoverFires y = Edge.fresh();
        y.feed(Due.four(twenty, 0), Due.four(twenty, 4), Due.four(twenty, 8), Due.four(twenty, 12), Due.four(twenty, 16));
        y.feed(Due.four(twenty, 0), Due.four(twenty, 4), Due.four(twenty, 8), Due.four(twenty, 12), Due.four(twenty, 16));
        Due.is("4 forty", y.text(), 0);
        Due.is("16 two houses", y.played(0), -1);
        Due.is("4 coins", y.of(1, 1), 1234);
        for (int place = 0; place < 20; place++) {
            int[] words = {0x20202020, 0x20202020, 0x20202020, 0x20202020, 0x20202020};
            words[place / 4] |= 0xff << 24 - place % 4 * 8;
            CoverFires z = Edge.fresh();
            z.feed(words[0], words[1], words[2], words[3], words[4]);
            Due.is("4 byte 255 at " + place, z.text(), -1);
            Due.is("7 at " + place, z.fault(1), place);
        }
    }

    /** "NONE, and nothing is done, if it has not so many, or n is below 0." */
    private static void endWithin() {
        for (int had : new int[] {0, 1, 20, 299, 300}) {
            for (int n : new int[] {-1, -2, LEAST, had + 1, 301, MOST}) {
                Edge.still("5 end " + n + " of " + had, () -> taped(had), x -> x.end(n), -1);
            }
            CoverFires x = taped(had);
            Due.is("5 all of " + had, x.end(had), had);
            Due.is("46 bytes", x.about(6), had);
            Due.is("5 none of " + had, x.end(0), 0);
            Due.is("46 no bytes", x.about(6), 0);
            Due.is("5 one of none", x.end(1), -1);
        }
        Edge.still("5 all as it is", () -> taped(44), x -> x.end(44), 44);
    }

    /** "The tape has its first n bytes alone". */
    private static void endCutsForGood() {
        CoverFires x = Edge.fresh();
        Due.tape(x, "light 0;cover 0; ;;;");
        Due.is("5 eight", x.end(8), 8);
        Due.is("5 nine are no more", x.end(9), -1);
        Due.tapeMore(x, "hour 3;");
        Due.is("4 the next come behind", x.about(6), 28);
        Due.is("5 cut behind them", x.end(15), 15);
        Due.is("6 both", x.text(), 0);
        x.house(0, 0);
        Due.is("16 played", x.played(0), -1);
        Due.is("16 lit, not covered", x.of(0, 2), 0);
        Due.is("16 hours", x.is(0), 3);
    }

    /** "TEXTS 0 .. 3"; "NONE: .. or (the tape stays) there are 4". */
    private static void textsUpToFour() {
        CoverFires x = Edge.fresh();
        for (int t = 0; t < 4; t++) {
            Due.is("6 text " + t, Due.read(x, "cools " + t + ";"), t);
            Due.is("6 texts", x.about(1), t + 1);
            Due.is("6 the tape is empty then", x.about(6), 0);
        }
        Edge.still("6 a fifth, of no bytes", () -> four(""), y -> y.text(), -1);
        Edge.still("6 a fifth", () -> four("light 0;"), y -> y.text(), -1);
        Edge.still("6 a fifth with a fault", () -> four("light 0"), y -> y.text(), -1);
        Edge.still("6 full", Edge::full, y -> y.text(), -1);
        CoverFires z = four("cools 7;");
        z.text();
        Due.is("6 the tape stays", z.about(6), 8);
        z.back();
        Due.is("6 it is read once there is room", z.text(), 0);
    }

    private static CoverFires four(String tape) {
        CoverFires x = Edge.fresh();
        Due.read(x, "hour;");
        for (int t = 0; t < 4; t++) {
            Due.read(x, "fine " + t + ";");
        }
        Due.tape(x, tape);
        return x;
    }

    /** "NONE: it has a FAULT": no TEXT comes of it, those told stay. */
    private static void aFaultIsNoText() {
        CoverFires x = Edge.fires();
        int texts = x.about(1);
        Due.is("6 a fault", Due.read(x, "fine 1; fine 2;"), -1);
        Due.is("6 none came", x.about(1), texts);
        Due.is("6 THE TEXT stays", x.about(2), -1);
        Due.is("16 it can't be played", x.played(texts), -2);
        Due.is("8 it can't rule", x.by(texts), false);
        Due.is("6 the next good one has its number", Due.read(x, "fine 2;"), texts);
        Due.is("8 that one can", x.by(texts), true);
        Due.is("19 and does", x.of(0, 6), 2);
    }

    /** "Of the latest text that was read"; "NONE for others, and ahead of any." */
    private static void faultOfTheLatest() {
        Edge.refused("7 what", -1, (x, what) -> x.fault(what), -1, 2, 3, LEAST, MOST);
        Edge.still("7 ahead of any", Edge::fresh, x -> x.fault(0), -1);
        Edge.still("7 place ahead of any", Edge::fresh, x -> x.fault(1), -1);
        Edge.still("7 ahead of any, though there is a tape", () -> taped(20), x -> x.fault(0), -1);
        CoverFires x = Edge.fresh();
        Due.read(x, "cools purse;");
        Due.is("7 fault", x.fault(0), 5);
        Due.is("7 place", x.fault(1), 6);
        Due.read(x, "");
        Due.is("7 without", x.fault(0), 0);
        Due.is("7 no place", x.fault(1), -1);
        Due.read(x, "!");
        Due.is("7 fault", x.fault(0), 1);
        Due.is("7 place 0", x.fault(1), 0);
        x.back();
        x.end(0);
        x.feed(0, 0, 0, 0, 0);
        Due.is("7 just text() reads", x.fault(0), 1);
        CoverFires y = four("light");
        Due.is("7 of the latest", y.fault(0), 0);
        y.text();
        Due.is("7 one that was not read doesn't count", y.fault(0), 0);
    }

    /** "THE TEXT (NONE: none): true. False for others." */
    private static void byWhatIsTold() {
        Edge.refused("8 text", 0, (x, text) -> Edge.bit(x.by(text)), -2, 4, 5, LEAST, MOST);
        Edge.refused("8 the first not told", 0, x -> Edge.bit(x.by(x.about(1))));
        CoverFires x = Edge.fires();
        for (int t = 1; t < 4; t++) {
            Due.is("6 text", Due.read(x, "fine " + t + ";"), t);
        }
        for (int t = 3; t >= 1; t--) {
            Due.is("8 by " + t, x.by(t), true);
            Due.is("46 THE TEXT", x.about(2), t);
            Due.is("19 rules", x.of(0, 6), t);
        }
        Due.is("8 none", x.by(-1), true);
        Due.is("46 none", x.about(2), -1);
        Due.is("19 none rules", x.of(0, 6), 10);
        Edge.still("8 none, as it is", Edge::fires, y -> Edge.bit(y.by(-1)), 1);
        Edge.still("8 the same again", Edge::lived, y -> Edge.bit(y.by(0)), 1);
    }

    private static String sign(int b) {
        return String.valueOf((char) b);
    }

    /** "blanks (32, 10) aside": just these two may stand behind the last CLAUSE. */
    private static void everyByteBehind() {
        for (int b = 0; b < 256; b++) {
            if (b == 32 || b == 10) {
                good("light 0;" + sign(b));
                good(sign(b) + "light 0;");
            } else {
                bad("light 0;" + sign(b), 1, 8);
            }
        }
        good(" \n light\n\n0 ; \n");
    }

    /** "letters a .. z, A .. Z one behind the other (one TOKEN), digits likewise". */
    private static void everyByteBetween() {
        for (int b = 0; b < 256; b++) {
            String text = "light" + sign(b) + "0;";
            boolean letter = b >= 'a' && b <= 'z' || b >= 'A' && b <= 'Z';
            if (b == 32 || b == 10 || b == '0') {
                good(text);
            } else if (letter) {
                bad(text, 1, 0);
            } else if (b >= '1' && b <= '9') {
                bad(text, 2, 5);
            } else {
                bad(text, 1, 5);
            }
            if (letter) {
                bad("light 0; " + sign(b), 1, 9);
                bad("light 0 " + sign(b) + ";", 1, 8);
            }
        }
        bad("light 0" + sign('x') + ";", 1, 7);
        bad("cools 1 2;", 1, 8);
        bad("co ols 1;", 1, 0);
        bad("coolS 1;", 1, 0);
        bad("cool 1;", 1, 0);
        bad("coolss 1;", 1, 0);
        bad("cools Hour;", 1, 6);
        bad("cools hours;", 1, 6);
        bad("cools hou;", 1, 6);
        bad("spreadss 1;", 1, 0);
        bad("cools hourhour;", 1, 6);
    }

    /** "<= >= < > = # .. (the longest)". */
    private static void theLongest() {
        for (String sign : new String[] {"<", "<=", ">", ">=", "=", "#"}) {
            good("cools if 1" + sign + "2 then 1 else 2 end;");
            good("cools if 1 " + sign + " 2 then 1 else 2 end;");
        }
        bad("cools if 1< =2 then 1 else 2 end;", 1, 12);
        bad("cools if 1> =2 then 1 else 2 end;", 1, 12);
        bad("cools if 1<==2 then 1 else 2 end;", 1, 12);
        bad("cools if 1<>2 then 1 else 2 end;", 1, 11);
        bad("cools if 1=<2 then 1 else 2 end;", 1, 11);
        bad("cools if 1=>2 then 1 else 2 end;", 1, 11);
        bad("cools if 1==2 then 1 else 2 end;", 1, 11);
        bad("cools if 1##2 then 1 else 2 end;", 1, 11);
        bad("cools if 1<<2 then 1 else 2 end;", 1, 11);
        bad("cools if 1>>2 then 1 else 2 end;", 1, 11);
        bad("cools if 1!=2 then 1 else 2 end;", 1, 10);
        bad("cools if 1<", 1, 11);
        bad("cools if 1<=", 1, 12);
    }

    /** "of up to 300 bytes": the last one counts. */
    private static void threeHundredBytes() {
        good(" ".repeat(300));
        good("light 0" + " ".repeat(292) + ";");
        good(" ".repeat(292) + "light 0;");
        bad(" ".repeat(293) + "light 0", 1, 300);
        bad(" ".repeat(293) + "light;0", 1, 298);
        bad(" ".repeat(299) + "!", 1, 299);
        bad(" ".repeat(299) + ";", 1, 299);
        bad("x".repeat(300), 1, 0);
        bad("light " + "7".repeat(294), 2, 6);
        bad("light " + "0".repeat(294), 1, 300);
        good("light " + "0".repeat(292) + "7;");
        bad("light" + " ".repeat(295), 1, 300);
        CoverFires x = Edge.fresh();
        Due.is("6 just short of it", Due.read(x, "hour" + " ".repeat(294) + "1"), -1);
        Due.is("7 at the length", x.fault(1), 299);
    }

    private static void threeHundredTokens() {
        CoverFires x = Edge.houses(1);
        Edge.rule(x, "fine 1" + "+1".repeat(146) + "; ");
        Due.is("19 147 ones", x.of(0, 6), 147);
        CoverFires y = Edge.houses(1);
        Edge.rule(y, "fine 9" + "*1".repeat(146) + " ;");
        Due.is("19 nine", y.of(0, 6), 9);
        CoverFires z = Edge.houses(1);
        Edge.rule(z, "fine 9" + "--1".repeat(97) + ";");
        Due.is("19 nine and 97", z.of(0, 6), 106);
        bad(";".repeat(300), 1, 0);
        bad("cools" + "(".repeat(295), 3, 13);
        bad("cools" + "-".repeat(295), 3, 13);
        bad("fine 1" + "+1".repeat(147), 1, 300);
        CoverFires w = Edge.houses(1);
        Edge.rule(w, "fine if odd 1" + " or odd 1".repeat(28) + " then 5 else 6 end;");
        Due.is("19 one of them", w.of(0, 6), 5);
        CoverFires v = Edge.houses(1);
        Edge.rule(v, "fine if odd 1" + " and odd 1".repeat(25) + " then 5 else 6 end;");
        Due.is("19 all of them", v.of(0, 6), 5);
    }

    private static final String[] FORMS = {"cools 1 ;", "spreads 1 ;", "fine 1 ;", "house 9 coins 9999 ;",
            "street 7 to 7 of 99 ;", "light 7 ;", "cover 7 ;", "open 7 ;", "fetch 7 from 7 ;", "quench 7 ;", "warden 7 ;",
            "hour 60 ;", "fine ( purse + who ) - - wood * 3 / heat ;",
            "cools if not odd hour and even bell or wind < fire then near else warm 1 end ;",
            "spreads 1 + if 1 <= 2 or 2 >= 3 and 3 # 4 then ( 1 ) else - 1 end * 2 ;"};

    /** "1 it can't stand there": "of the end at the length", wherever a CLAUSE is cut short. */
    private static void cutShort() {
        for (String form : FORMS) {
            good(form);
            String[] tokens = form.split(" ");
            String text = "";
            for (int i = 0; i < tokens.length - 1; i++) {
                text += (i > 0 ? " " : "") + tokens[i];
                bad(text, 1, text.length());
                bad("hour 1;" + text + "  ", 1, text.length() + 9);
            }
        }
    }

    /** "at the TOKEN's first byte": one that can't stand in any place of a CLAUSE. */
    private static void spoilt() {
        for (String form : FORMS) {
            String[] tokens = form.split(" ");
            for (int i = 0; i < tokens.length; i++) {
                for (String wrong : new String[] {"!", "of", "to", "from", "coins", "cools", "light", "Bell", "end", ")"}) {
                    String text = "";
                    for (int before = 0; before < i; before++) {
                        text += tokens[before] + " ";
                    }
                    boolean clause = i == 0 && (wrong.equals("cools") || wrong.equals("light"));
                    boolean closes = wrong.equals(")") && form.contains("( purse");
                    if (!clause && !closes && !wrong.equals(tokens[i])) {
                        bad(text + wrong + " 1 ;", 1, text.length());
                    }
                }
            }
        }
    }

    /** "a NUMBER that isn't one of those told (above 9999; WOOD 0 .. 9, HOUSES 0 .. 7, STREETS 0 .. 99, HOURS 1 .. 60)". */
    private static void placesOfNumbers() {
        number("house ", 0, 9, " coins 1;");
        number("house 1 coins ", 0, 9999, ";");
        number("street ", 0, 7, " to 1 of 1;");
        number("street 1 to ", 0, 7, " of 1;");
        number("street 1 to 2 of ", 0, 99, ";");
        for (String act : new String[] {"light ", "cover ", "open ", "quench ", "warden "}) {
            number(act, 0, 7, ";");
        }
        number("fetch ", 0, 7, " from 1;");
        number("fetch 1 from ", 0, 7, ";");
        number("hour ", 1, 60, ";");
        for (String sum : new String[] {"cools ", "spreads 1+", "fine (", "cools 2*-", "fine warm ", "cools if odd ",
                "cools if 1 < ", "fine 1 / "}) {
            String behind = sum.contains("(") ? ");" : sum.contains("if") ? " then 1 else 2 end;" : ";";
            number(sum, 0, 9999, sum.contains("if 1") ? " then 1 else 2 end;" : behind);
        }
        number("cools if odd 1 then ", 0, 9999, " else 2 end;");
        number("cools if odd 1 then 1 else ", 0, 9999, " end;");
    }

    private static void number(String ahead, int least, int most, String behind) {
        good(ahead + least + behind);
        good(ahead + most + behind);
        good(ahead + "000" + most + behind);
        bad(ahead + (most + 1) + behind, 2, ahead.length());
        bad(ahead + "000" + (most + 1) + behind, 2, ahead.length());
        bad(ahead + "10000" + behind, 2, ahead.length());
        if (least > 0) {
            bad(ahead + (least - 1) + behind, 2, ahead.length());
            bad(ahead + "0000" + behind, 2, ahead.length());
        }
    }

    /** However many digits there are, no NUMBER comes round to a small one. */
    private static void greatNumbers() {
        for (String great : new String[] {"10000", "65536", "65537", "99999", "2147483647", "2147483648", "4294967296",
                "4294967297", "4294967303", "18446744073709551616", "18446744073709551617", "100000000000000000001"}) {
            bad("light " + great + ";", 2, 6);
            bad("cools " + great + ";", 2, 6);
            bad("hour " + great + ";", 2, 5);
            bad("light 0 " + great + ";", 1, 8);
        }
    }

    private static void numbersAsTold() {
        CoverFires x = Edge.fresh();
        Due.is("16 played", x.played(Due.read(x, "house 009 coins 09999; house 0 coins 0; house 1 coins 2; house 3 coins 4;"
                + "house 5 coins 6; house 7 coins 8; house 8 coins 9; house 6 coins 1000; street 7 to 0 of 99; street 6 to 7 of 1;"
                + "light 7; fetch 6 from 7; cover 6; open 6; warden 6; hour 60;")), -1);
        Due.is("16 wood", x.of(0, 0), 9);
        Due.is("16 coins", x.of(0, 1), 9999);
        Due.is("16 wood of the last", x.of(7, 0), 6);
        Due.is("16 far", x.far(0, 6), 100);
        Due.is("16 fined", x.befell(6, 5), 1);
        Due.is("16 hour", x.is(0), 60);
    }

    /** "the 9th of ( not warm if and - (of one ONE) that are open around one another (at it)". */
    private static void depthOfEach() {
        deep("(", ")", 8);
        deep("-", "", 8);
        deep("warm ", "", 8);
        deep("if 1<2 then ", " else 3 end", 8);
        deep("if 1<2 then 3 else ", " end", 8);
        deep("if odd ", " then 1 else 2 end", 8);
        deep("if 1<", " then 1 else 2 end", 8);
        deep("(-warm if odd ", " then 1 else 2 end)", 2);
        String not = "not ".repeat(7);
        good("cools if " + not + "odd 1 then 1 else 2 end;");
        bad("cools if " + not + "not odd 1 then 1 else 2 end;", 3, 9 + 28);
        bad("cools if " + not + "odd (1) then 1 else 2 end;", 3, 9 + 28 + 4);
        bad("cools if " + not + "odd -1 then 1 else 2 end;", 3, 9 + 28 + 4);
        bad("cools if " + not + "1 < warm 1 then 1 else 2 end;", 3, 9 + 28 + 4);
        good("cools ((((((if not odd 1 then 1 else 2 end))))));");
        bad("cools (((((((if not odd 1 then 1 else 2 end)))))));", 3, 16);
    }

    private static void deep(String opens, String ends, int times) {
        String around = "cools " + opens.repeat(times);
        good(around + "1" + ends.repeat(times) + ";");
        good(around + "1-1" + ends.repeat(times) + ";");
        bad(around + "(1)" + ends.repeat(times) + ";", 3, around.length());
        bad(around + "-1" + ends.repeat(times) + ";", 3, around.length());
        bad(around + "warm 1" + ends.repeat(times) + ";", 3, around.length());
        bad(around + "if odd 1 then 1 else 2 end" + ends.repeat(times) + ";", 3, around.length());
        if (ends.isEmpty()) {
            bad(around + "1*(", 1, around.length() + 3);
        } else {
            bad(around + "1*(", 3, around.length() + 2);
        }
        bad(around + ")", 1, around.length());
        bad(around + "1 1", 1, around.length() + 2);
    }

    /** What is behind its end is open no more: of - and warm behind one ONE, of not behind its ASK. */
    private static void depthIsLeft() {
        String eight = "((((((((1))))))))";
        String seven = "(((((((1)))))))";
        good("cools " + eight + "+" + eight + "*" + eight + "-" + eight + ";");
        good("cools -1*" + eight + ";");
        good("cools -1+" + eight + ";");
        good("cools -1-" + eight + ";");
        bad("cools -" + eight + ";", 3, 14);
        good("cools -" + seven + ";");
        good("cools warm 1*" + eight + ";");
        bad("cools warm " + eight + ";", 3, 18);
        good("cools 1" + "--1".repeat(20) + ";");
        good("cools warm 1" + "+warm 1".repeat(20) + ";");
        good("cools if not odd 1" + " and not odd 1".repeat(10) + " then 1 else 2 end;");
        good("cools if not odd 1 and " + seven + " = 1 then 1 else 2 end;");
        bad("cools if not odd " + seven + " then 1 else 2 end;", 3, 23);
        good("cools if not ((((((1)))))) < ((((((1)))))) then 1 else 2 end;");
        bad("cools if not 1 < " + seven + " then 1 else 2 end;", 3, 23);
        good("cools if odd 1 then " + seven + " else " + seven + " end + " + eight + ";");
        bad("cools if odd 1 then 1 else " + eight + " end;", 3, 34);
        good("cools " + eight + ";fine " + eight + ";");
    }

    /** "4 cools, spreads, fine for the second time (at it)". */
    private static void secondLaws() {
        String[] laws = {"cools", "spreads", "fine"};
        for (String law : laws) {
            good(law + " 1;");
            bad(law + " 1;" + law + " 1;", 4, law.length() + 3);
            bad(law + " 1;light 0;" + law, 4, law.length() + 11);
            bad(law + " 1; " + law + " 10000;", 4, law.length() + 4);
            for (String other : laws) {
                if (!other.equals(law)) {
                    good(law + " 1;" + other + " 1;");
                }
            }
        }
        good("light 0;light 0;hour 1;hour 1;house 1 coins 1;house 1 coins 1;");
        bad("cools 1;spreads 1;fine 1;spreads 1;", 4, 25);
        CoverFires x = Edge.fresh();
        Due.read(x, "cools 1;");
        Due.is("6 each text has its own", Due.read(x, "cools 2;"), 1);
        Due.read(x, "cools 1;cools 2;");
        Due.is("6 behind one with a fault", Due.read(x, "cools 2;"), 2);
    }

    /** "5 a NAME that isn't of that CLAUSE (at it)": all NAMES in all laws, purse in fine alone. */
    private static void namesOfLaws() {
        for (String name : new String[] {"hour", "bell", "wind", "who", "wood", "fire", "heat", "near"}) {
            good("cools " + name + ";");
            good("spreads " + name + ";");
            good("fine " + name + ";");
            bad("light " + name + ";", 1, 6);
            bad("cools 1 " + name + ";", 1, 8);
        }
        good("fine purse;");
        good("fine if purse < 3 then -purse else warm purse end;");
        bad("cools purse;", 5, 6);
        bad("spreads purse;", 5, 8);
        bad("cools if 1 < purse then 1 else 2 end;", 5, 13);
        bad("spreads warm purse;", 5, 13);
        bad("cools 1+2*(3-purse);", 5, 13);
        bad("fine purse; cools purse;", 5, 18);
        bad("cools 1; spreads purse; fine purse;", 5, 17);
        bad("hour purse;", 1, 5);
        bad("purse;", 1, 0);
        bad("cools 1 purse;", 1, 8);
    }

    /** "24 at most"; "6 the 25th CLAUSE (at its first TOKEN)". */
    private static void clausesUpTo24() {
        for (int clauses = 23; clauses <= 24; clauses++) {
            good("hour 1;".repeat(clauses));
            good("hour 1;".repeat(clauses) + " \n");
        }
        String full = "hour 1;".repeat(24);
        for (String act : new String[] {"light 0;", "hour 1;", "cools 1;", "house 1 coins 1;", "light", "fetch 9999"}) {
            bad(full + act, 6, 168);
            bad(full + "\n  " + act, 6, 171);
        }
        bad(full + ";", 1, 168);
        bad(full + "0", 1, 168);
        bad(full + "bell", 1, 168);
        bad(full + "?", 1, 168);
        String laws = "cools 1;spreads 1;fine 1;";
        good(laws + "hour 1;".repeat(21));
        bad(laws + "hour 1;".repeat(21) + "light 1;", 6, 25 + 147);
        bad(laws + "hour 1;".repeat(21) + "fine 1;", 4, 25 + 147);
        bad("hour 1;".repeat(23) + "hour 0;hour 1;", 2, 23 * 7 + 5);
        bad("light 0;".repeat(37), 6, 192);
    }

    /** "the first as TOKENS are come to". */
    private static void theFirstFault() {
        bad("light 8; ! cools purse; cools 1; cools 2;", 2, 6);
        bad("cools purse + 10000;", 5, 6);
        bad("cools 10000 + purse;", 2, 6);
        bad("cools (((((((((purse", 3, 14);
        bad("cools ((((((((purse", 5, 14);
        bad("light ; light 9;", 1, 6);
        bad("house 10 coins 10000;", 2, 6);
        bad("house 9 coin 10000;", 1, 8);
        bad("street 0 to 8 of 100;", 2, 12);
        bad("fetch 8 from 9;", 2, 6);
        bad("hour 61 61;", 2, 5);
    }

    /** "of one the least". */
    private static void ofOneTheLeast() {
        bad("light 0 10000;", 1, 8);
        bad("light 10000;", 2, 6);
        bad("cools ((((((((1(1", 1, 15);
        bad("cools ((((((((1 warm 1", 1, 16);
        bad("cools ((((((((1 if 1", 1, 16);
        bad("cools if not not not not not not not odd not 1", 1, 41);
        bad("cools 1 purse;", 1, 8);
        bad("cools 1;hour 1 cools 2;", 1, 15);
        bad("cools 1;" + "hour 1;".repeat(23) + "cools 1;", 4, 8 + 161);
        bad("cools 1;" + "hour 1;".repeat(23) + "purse 1;", 1, 8 + 161);
    }
}
