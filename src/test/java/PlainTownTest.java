import java.util.Arrays;
import java.util.List;
import java.util.Random;

/** Random runs of calls (seeds fixed), each answer held against PlainTown's. */
public final class PlainTownTest {
    private static final int RUNS = 1500;
    private static final int CALLS = 512;

    private final Random random;
    private final CoverFires x = new CoverFires();
    private final PlainTown plain = new PlainTown();
    private final StringBuilder told = new StringBuilder();
    private final int run;
    private int calls = 0;
    private boolean agrees = true;

    private PlainTownTest(int run) {
        this.run = run;
        random = new Random(run);
    }

    public static void main(String[] args) {
        int runs = args.length > 0 ? Integer.parseInt(args[0]) : RUNS;
        for (int run = 0; run < runs && Due.wrong() < 5; run++) {
            new PlainTownTest(run).go();
        }
        Due.finish();
    }

    private void go() {
        int houses = random.nextInt(9);
        for (int i = 0; i < houses; i++) {
            call("house", upTo(9), random.nextInt(4) == 0 ? upTo(9999) : upTo(40));
        }
        int streets = houses < 2 ? 0 : random.nextInt(2 * houses);
        for (int i = 0; i < streets; i++) {
            call("street", random.nextInt(houses), random.nextInt(houses), random.nextBoolean() ? upTo(99) : upTo(4));
        }
        while (calls < CALLS - 20 && agrees) {
            if (random.nextInt(25) == 0) {
                readText();
            } else if (random.nextInt(3) > 0) {
                change();
            } else {
                question();
            }
        }
    }

    private int upTo(int most) {
        return random.nextInt(most + 1);
    }

    /** Mostly a house that may be told, now and then one beside. */
    private int house() {
        return random.nextInt(30) == 0 ? random.nextInt(14) - 4 : random.nextInt(8);
    }

    private int around(int least, int most) {
        switch (random.nextInt(12)) {
            case 0: return least - 1;
            case 1: return most + 1;
            case 2: return least;
            case 3: return most;
            case 4: return random.nextInt(60) == 0 ? random.nextInt() : least;
            default: return least + random.nextInt(most - least + 1);
        }
    }

    private int houseOrNone() {
        return random.nextInt(3) == 0 ? -1 : house();
    }

    private void change() {
        switch (random.nextInt(22)) {
            case 0:
            case 1:
            case 2: call("light", house()); break;
            case 3: call("cover", house()); break;
            case 4: call("open", house()); break;
            case 5:
            case 6:
            case 7: call("fetch", house(), house()); break;
            case 8: call("quench", house()); break;
            case 9: call("warden", house()); break;
            case 10:
            case 11: call("hour", random.nextInt(4) > 0 ? 1 + upTo(2) : around(1, 60)); break;
            case 12: call("winters", around(0, 9999), around(1, 40)); break;
            case 13: call("undo"); break;
            case 14: call("house", around(0, 9), around(0, 9999)); break;
            case 15: call("street", house(), house(), around(0, 99)); break;
            case 16: call(random.nextBoolean() ? "warmth" : "bid", around(0, 23), around(-99, 99)); break;
            case 17: call("seen", random.nextInt(8) == 0 ? -1 : house(), random.nextInt(3) == 0 ? around(0, 99) : 20 + upTo(5),
                    random.nextInt(2)); break;
            case 18: call("cooled", random.nextInt(8) == 0 ? -1 : house(), random.nextInt(4) == 0 ? around(0, 9) : 1); break;
            case 19: call("by", around(-1, 3)); break;
            case 20: call("played", around(0, 3)); break;
            default: call(random.nextInt(3) == 0 ? "image" : random.nextInt(3) == 0 ? "back" : "undo"); break;
        }
    }

    private void question() {
        switch (random.nextInt(27)) {
            case 0: call("of", house(), around(0, 7)); break;
            case 1: call("is", around(0, 3)); break;
            case 2: call("book", around(-1, 30), around(0, 2)); break;
            case 3: call("foretold", around(1, 60), house(), around(0, 2)); break;
            case 4: call("out", house()); break;
            case 5: call("far", house(), house()); break;
            case 6: call("round", around(0, 1)); break;
            case 7: call("again", house()); break;
            case 8: call("ring", around(0, 2)); break;
            case 9: call("dawn", around(1, 8), houseOrNone()); break;
            case 10: call("chain", house()); break;
            case 11: call("stone", around(0, 8), random.nextInt(2)); break;
            case 12: call("began", houseOrNone()); break;
            case 13: call("whom"); break;
            case 14: call("leave", around(0, 8), random.nextInt(2)); break;
            case 15: call("whose"); break;
            case 16: call("befell", houseOrNone(), around(0, 5)); break;
            case 17: call("parts"); break;
            case 18: call("warmest"); break;
            case 19: call("leaves"); break;
            case 20: call("kept"); break;
            case 21: call("about", around(0, 6)); break;
            case 22: call("fault", around(0, 1)); break;
            case 23: call("end", around(0, 300)); break;
            case 24: call("feed", random.nextInt(), 0, -1, random.nextInt(), 1668247404); break;
            case 25: lookAtAll(); break;
            default: call("of", house(), 4 + upTo(2)); break;
        }
    }

    /** What is asked most is seldom what went wrong: now and then the whole book and every house. */
    private void lookAtAll() {
        for (int i = 0; i < 4; i++) {
            call("is", i);
        }
        for (int h = 0; h < 8 && calls < CALLS - 60; h++) {
            for (int what = 1; what < 6; what++) {
                call("of", h, what);
            }
        }
        int noted = plain.call("book", -1, 0);
        for (int i = 0; i < noted && calls < CALLS - 60; i++) {
            int at = random.nextInt(noted);
            call("book", at, 1);
            call("book", at, 2);
        }
    }

    private void readText() {
        if (calls > CALLS - 60) {
            return;
        }
        String text = new TextMaker(random).make();
        call("end", 0);
        for (int at = 0; at < text.length(); at += 20) {
            call("feed", Due.four(text, at), Due.four(text, at + 4), Due.four(text, at + 8), Due.four(text, at + 12),
                    Due.four(text, at + 16));
        }
        call("end", text.length());
        told.append("  [").append(text).append("]\n");
        call("text");
        call("fault", 0);
        call("fault", 1);
        if (random.nextInt(3) > 0) {
            call("by", random.nextInt(4));
        }
    }

    private void call(String name, int... a) {
        if (!agrees || calls >= CALLS) {
            return;
        }
        calls++;
        int want = plain.call(name, a);
        int got = asked(name, a);
        told.append("  ").append(name).append(Arrays.toString(a)).append(" ").append(want).append("\n");
        agrees = got == want;
        Due.is("run " + run + " call " + calls + " " + name + Arrays.toString(a), got, want);
        if (!agrees) {
            System.out.println(told);
        }
    }

    private int asked(String name, int... a) {
        switch (name) {
            case "house": return x.house(a[0], a[1]);
            case "street": return x.street(a[0], a[1], a[2]) ? 1 : 0;
            case "feed": return x.feed(a[0], a[1], a[2], a[3], a[4]);
            case "end": return x.end(a[0]);
            case "text": return x.text();
            case "fault": return x.fault(a[0]);
            case "by": return x.by(a[0]) ? 1 : 0;
            case "light": return x.light(a[0]) ? 1 : 0;
            case "cover": return x.cover(a[0]) ? 1 : 0;
            case "open": return x.open(a[0]) ? 1 : 0;
            case "fetch": return x.fetch(a[0], a[1]);
            case "quench": return x.quench(a[0]) ? 1 : 0;
            case "warden": return x.warden(a[0]);
            case "hour": return x.hour(a[0]);
            case "played": return x.played(a[0]);
            case "winters": return x.winters(a[0], a[1]);
            case "undo": return x.undo();
            case "image": return x.image();
            case "back": return x.back();
            default: return answered(name, a);
        }
    }

    private int answered(String name, int... a) {
        switch (name) {
            case "of": return x.of(a[0], a[1]);
            case "is": return x.is(a[0]);
            case "book": return x.book(a[0], a[1]);
            case "foretold": return x.foretold(a[0], a[1], a[2]);
            case "out": return x.out(a[0]);
            case "far": return x.far(a[0], a[1]);
            case "round": return x.round(a[0]);
            case "again": return x.again(a[0]);
            case "warmth": return x.warmth(a[0], a[1]) ? 1 : 0;
            case "ring": return x.ring(a[0]);
            case "dawn": return x.dawn(a[0], a[1]);
            case "chain": return x.chain(a[0]);
            case "stone": return x.stone(a[0], a[1] != 0);
            case "seen": return x.seen(a[0], a[1], a[2] != 0);
            case "began": return x.began(a[0]);
            case "whom": return x.whom();
            case "bid": return x.bid(a[0], a[1]) ? 1 : 0;
            case "leave": return x.leave(a[0], a[1] != 0);
            case "cooled": return x.cooled(a[0], a[1]);
            case "whose": return x.whose();
            case "befell": return x.befell(a[0], a[1]);
            case "parts": return x.parts();
            case "warmest": return x.warmest();
            case "leaves": return x.leaves();
            case "kept": return x.kept();
            case "about": return x.about(a[0]);
            default: throw new IllegalArgumentException(name);
        }
    }

    /** Texts by the grammar, some of them spoilt at one token or one byte. */
    private static final class TextMaker {
        private static final List<String> WORDS = List.of("cools", "spreads", "fine", "house", "street", "light", "cover",
                "open", "fetch", "quench", "warden", "hour", "coins", "to", "of", "from", "bell", "wind", "who", "wood",
                "fire", "heat", "near", "purse", "warm", "if", "then", "else", "end", "and", "or", "not", "odd", "even",
                "(", ")", ";", "+", "-", "*", "/", "<", "<=", ">", ">=", "=", "#", "0", "8", "9999", "10000", "Cools", "x", "!");
        private final Random random;
        private final StringBuilder text = new StringBuilder();
        private String law = "";

        TextMaker(Random random) {
            this.random = random;
        }

        String make() {
            int clauses = random.nextInt(20) == 0 ? 27 : random.nextInt(7);
            boolean small = clauses > 20;
            for (int i = 0; i < clauses && text.length() < 240; i++) {
                clause(small);
            }
            if (random.nextInt(3) == 0) {
                spoil();
            }
            if (text.length() > 280) {
                text.setLength(280);
            }
            return text.toString();
        }

        private void put(String token) {
            text.append(token);
            boolean apart = Character.isLetterOrDigit(token.charAt(0));
            text.append(apart || random.nextInt(6) == 0 ? random.nextInt(8) == 0 ? "\n" : " " : "");
        }

        private String number(int most) {
            return String.valueOf(random.nextInt(40) == 0 ? most + 1 : random.nextInt(most + 1));
        }

        private void clause(boolean small) {
            int kind = small ? 5 : random.nextInt(12);
            if (kind < 3) {
                law = WORDS.get(kind);
                put(law);
                sum(random.nextInt(4) == 0 ? 9 : 3);
            } else if (kind == 3) {
                put("house");
                put(number(9));
                put("coins");
                put(number(9999));
            } else if (kind == 4) {
                put("street");
                put(number(7));
                put("to");
                put(number(7));
                put("of");
                put(number(99));
            } else if (kind == 8) {
                put("fetch");
                put(number(7));
                put("from");
                put(number(7));
            } else if (kind == 11) {
                put("hour");
                put(random.nextInt(3) == 0 ? number(60) : "1");
            } else {
                put(WORDS.get(kind));
                put(number(7));
            }
            put(";");
        }

        private void sum(int deep) {
            one(deep);
            while (random.nextInt(3) == 0) {
                put(List.of("+", "-", "*", "/").get(random.nextInt(4)));
                one(deep);
            }
        }

        private void one(int deep) {
            int kind = random.nextInt(deep > 0 ? 9 : 3);
            if (deep > 5 && random.nextInt(4) > 0) {
                kind = 3 + random.nextInt(3);
            }
            switch (kind) {
                case 0: put(number(random.nextInt(3) == 0 ? 9999 : 9)); break;
                case 1:
                case 2: put(name()); break;
                case 3:
                    put("(");
                    sum(deep - 1);
                    put(")");
                    break;
                case 4:
                    put("-");
                    one(deep - 1);
                    break;
                case 5:
                case 6:
                    put("warm");
                    one(deep - 1);
                    break;
                default:
                    put("if");
                    ask(deep - 1);
                    while (random.nextInt(3) == 0) {
                        put(random.nextBoolean() ? "and" : "or");
                        ask(deep - 1);
                    }
                    put("then");
                    sum(deep - 1);
                    put("else");
                    sum(deep - 1);
                    put("end");
                    break;
            }
        }

        private String name() {
            List<String> names = List.of("hour", "bell", "wind", "who", "wood", "fire", "heat", "near", "purse");
            return names.get(random.nextInt(law.equals("fine") || random.nextInt(40) == 0 ? 9 : 8));
        }

        private void ask(int deep) {
            int kind = random.nextInt(5);
            if (kind == 0 && deep > 0) {
                put("not");
                ask(deep - 1);
            } else if (kind < 3) {
                put(kind == 1 ? "odd" : "even");
                sum(deep - 1);
            } else {
                sum(deep - 1);
                put(List.of("<", "<=", ">", ">=", "=", "#").get(random.nextInt(6)));
                sum(deep - 1);
            }
        }

        private void spoil() {
            int at = random.nextInt(text.length() + 1);
            switch (random.nextInt(4)) {
                case 0: text.insert(at, WORDS.get(random.nextInt(WORDS.size())) + " "); break;
                case 1: text.setLength(at); break;
                case 2:
                    if (at < text.length()) {
                        text.deleteCharAt(at);
                    }
                    break;
                default: text.insert(at, (char) random.nextInt(256)); break;
            }
        }
    }
}
