import java.util.ArrayList;
import java.util.List;

/** Towns in known states, and a look at all that can be asked of one: so that what must stay as it was is seen. */
final class Edge {
    static final int LEAST = Integer.MIN_VALUE;
    static final int MOST = Integer.MAX_VALUE;

    interface Scene {
        CoverFires make();
    }

    interface Call {
        int on(CoverFires x);
    }

    interface CallWith {
        int on(CoverFires x, int value);
    }

    private static final String[] NAMES = {"fresh", "lived", "fires", "full", "late"};
    private static final Scene[] SCENES = {Edge::fresh, Edge::lived, Edge::fires, Edge::full, Edge::late};

    private Edge() {
    }

    static int bit(boolean so) {
        return so ? 1 : 0;
    }

    /** The call is answered so, and leaves the town as if it had never come. */
    static void still(String name, Scene scene, Call call, int want) {
        CoverFires x = scene.make();
        Due.is(name, call.on(x), want);
        same(name + " leaves all as it was", look(x, true), look(scene.make(), true));
    }

    /** Whatever the town is like, each of the values is refused. */
    static void refused(String name, int want, CallWith call, int... values) {
        for (int value : values) {
            refused(name + " " + value, want, x -> call.on(x, value));
        }
    }

    static void refused(String name, int want, Call call) {
        for (int i = 0; i < SCENES.length; i++) {
            still(name + " (" + NAMES[i] + ")", SCENES[i], call, want);
        }
    }

    /** The question is asked, whatever its answer: the town is as if it had not been. */
    static void onlyAsks(String name, Call call) {
        for (int i = 0; i < SCENES.length; i++) {
            CoverFires x = SCENES[i].make();
            call.on(x);
            same(name + " (" + NAMES[i] + ") changes nothing", look(x, true), look(SCENES[i].make(), true));
        }
    }

    /** A call that does something is taken back: the town is as ahead of it, one STEP the less. */
    static void takenBack(String name, Scene scene, Call call) {
        CoverFires x = scene.make();
        int steps = x.about(3);
        call.on(x);
        Due.is(name + " is one STEP", x.about(3), steps + 1);
        Due.is(name + " taken back", x.undo(), steps);
        same(name + " taken back: all is as ahead of it", look(x, true), look(scene.make(), true));
    }

    static void same(String name, List<String> got, List<String> want) {
        int at = 0;
        while (at < got.size() && at < want.size() && got.get(at).equals(want.get(at))) {
            at++;
        }
        boolean alike = at == got.size() && at == want.size();
        String told = alike ? "" : ": " + (at < got.size() ? got.get(at) : "less") + ", as it was: "
                + (at < want.size() ? want.get(at) : "less");
        Due.is(name + told, alike, true);
    }

    static CoverFires fresh() {
        return new CoverFires();
    }

    static CoverFires houses(int houses) {
        CoverFires x = new CoverFires();
        for (int h = 0; h < houses; h++) {
            x.house(0, 20);
        }
        return x;
    }

    /** HOUSES one behind the other, each joined to the next. */
    static CoverFires row(int houses) {
        CoverFires x = houses(houses);
        for (int h = 1; h < houses; h++) {
            x.street(h - 1, h, 1);
        }
        return x;
    }

    /** A TEXT is read and rules. */
    static void rule(CoverFires x, String text) {
        int number = Due.read(x, text);
        Due.is("by [" + text + "]", x.by(number), true);
    }

    /** Five HOUSES, a bit of everything, nothing of it full; an image of three of them. */
    static CoverFires lived() {
        CoverFires x = new CoverFires();
        x.house(4, 50);
        x.house(9, 5);
        x.house(0, 20);
        x.street(0, 1, 5);
        x.light(2);
        x.image();
        x.house(7, 9999);
        x.house(2, 0);
        x.street(1, 2, 7);
        x.street(2, 3, 1);
        x.street(3, 4, 99);
        Due.read(x, "cools 1+who; spreads near; fine 3*wood;");
        Due.read(x, "house 5 coins 9; hour 2;");
        x.by(0);
        x.light(0);
        x.fetch(1, 0);
        x.warden(1);
        x.light(3);
        x.cover(0);
        x.hour(1);
        x.seen(1, 10, true);
        x.seen(3, 11, false);
        x.cooled(0, 1);
        x.cooled(1, 2);
        x.bid(0, 3);
        x.bid(4, 99);
        x.warmth(5, -7);
        x.warmth(23, -99);
        Due.read(x, "light");
        Due.tape(x, "cools 5; hour");
        return x;
    }

    /** HOUSE h has FIRE h (0 .. 4), HOUSE 5 is out; 5 and 2 have a STREET to each other one. Bell, 30 COINS each. */
    static CoverFires fires() {
        CoverFires x = firesApart();
        for (int h = 0; h < 5; h++) {
            x.street(h, 5, h + 1);
        }
        for (int h = 0; h < 5; h++) {
            x.street(h, 2, 9);
        }
        return x;
    }

    /** The same without STREETS. HEAT of 1, 2 and 3 is 9. */
    static CoverFires firesApart() {
        CoverFires x = new CoverFires();
        for (int h = 0; h < 6; h++) {
            x.house(4, 30);
        }
        rule(x, "cools 0; spreads 10;");
        x.light(4);
        x.hour(1);
        x.light(3);
        x.hour(1);
        x.light(1);
        x.cover(1);
        x.light(2);
        x.by(-1);
        return x;
    }

    /** 8 HOUSES, 4 TEXTS, 8 SEEN, 8 COOLED, 30 STEPS, 30 notes, 300 bytes: all that can be full is so. */
    static CoverFires full() {
        CoverFires x = new CoverFires();
        for (int h = 0; h < 8; h++) {
            x.house(h, 100 * h);
            x.bid(h, 9 * h);
            if (h > 0) {
                x.street(h - 1, h, h);
            }
        }
        Due.read(x, "cools 1;");
        Due.read(x, "!");
        Due.read(x, "fine 7;");
        Due.read(x, "hour 1;");
        rule(x, "cools 9; spreads 0;");
        for (int i = 0; i < 16; i++) {
            x.light(i % 8);
            x.hour(1);
        }
        x.light(2);
        x.fetch(3, 2);
        for (int i = 0; i < 8; i++) {
            x.seen(i, 40 + i, i < 2);
            x.cooled(i, 9);
        }
        for (int i = 0; i < 15; i++) {
            x.feed(0x6f70656e, 0x20373b20, 0x20202020, 0x20202020, i < 14 ? 0x20202020 : 0x2020203f);
        }
        return x;
    }

    /** The last HOUR, 9999; two fires. */
    static CoverFires late() {
        CoverFires x = new CoverFires();
        passTo(x, 9997);
        x.house(1, 9);
        x.house(1, 9);
        x.street(0, 1, 1);
        x.light(0);
        x.cover(0);
        x.light(1);
        x.hour(2);
        return x;
    }

    /** HOURS pass by a script, so that few calls are needed: ten at most for the script, the rest by sixty. */
    static void passTo(CoverFires x, int hour) {
        int script = Due.read(x, "hour 60;".repeat(24));
        while (hour - x.is(0) >= 1440) {
            x.played(script);
        }
        while (x.is(0) < hour) {
            x.hour(Math.min(60, hour - x.is(0)));
        }
        Due.is("passed to " + hour, x.is(0), hour);
    }

    /** At most 390 calls, as an object is used for 512; the STEPS are taken back by it, so it looks just once. */
    static List<String> look(CoverFires x, boolean tapeToo) {
        List<String> all = new ArrayList<>();
        int houses = x.about(0);
        if (tapeToo) {
            all.add("tape " + x.about(6) + " fault " + x.fault(0) + " at " + x.fault(1));
        }
        for (int what = 0; what < 6; what++) {
            all.add("about " + what + " " + x.about(what));
        }
        hours(x, all);
        book(x, all);
        for (int h = 0; h < houses; h++) {
            house(x, h, houses, all);
        }
        town(x, all);
        bids(x, houses, all);
        laws(x, all);
        backwards(x, houses, all);
        imageAndTape(x, all, tapeToo);
        return all;
    }

    private static void hours(CoverFires x, List<String> all) {
        all.add("hour " + x.is(0) + " bell " + x.is(1) + " wind " + x.is(2) + " X " + x.is(3));
    }

    private static void book(CoverFires x, List<String> all) {
        int notes = x.book(-1, 0);
        all.add("notes " + notes);
        for (int i = 0; i < notes; i++) {
            all.add("note " + i + ": " + x.book(i, 0) + " " + x.book(i, 1) + " " + x.book(i, 2));
        }
    }

    private static void house(CoverFires x, int h, int houses, List<String> all) {
        for (int what = 0; what < 8; what++) {
            all.add("of " + h + " " + what + ": " + x.of(h, what));
        }
        for (int other = h + 1; other < houses; other++) {
            all.add("far " + h + " " + other + ": " + x.far(h, other));
        }
        all.add("again " + h + ": " + x.again(h) + " dawn " + x.dawn(1, h) + " chain " + x.chain(h));
        all.add("began " + h + ": " + x.began(h) + " out " + x.out(h));
        all.add("foretold " + h + ": " + x.foretold(1, h, 0) + " " + x.foretold(2, h, 1));
    }

    private static void town(CoverFires x, List<String> all) {
        all.add("round " + x.round(0) + " odd " + x.round(1) + " parts " + x.parts() + " leaves " + x.leaves());
        all.add("ring " + x.ring(0) + " " + x.ring(1) + " " + x.ring(2));
        all.add("dawn " + x.dawn(2, -1) + " warmest " + x.warmest() + " kept " + x.kept());
        all.add("stone " + x.stone(2, false) + " " + x.stone(2, true) + " burnt " + x.foretold(60, 0, 2));
        all.add("began " + x.began(-1) + " whom " + x.whom() + " whose " + x.whose());
    }

    private static void bids(CoverFires x, int houses, List<String> all) {
        for (int k = 0; k < houses; k++) {
            all.add("leave " + k + " " + x.leave(k, false) + " " + x.leave(k, true));
        }
    }

    private static void laws(CoverFires x, List<String> all) {
        int ruling = x.about(2);
        int texts = x.about(1);
        for (int t = 0; t < texts; t++) {
            x.by(t);
            all.add("text " + t + ": " + x.of(1, 4) + " " + x.of(1, 5) + " " + x.of(1, 6));
        }
        x.by(ruling);
    }

    private static void backwards(CoverFires x, int houses, List<String> all) {
        int left = x.about(3);
        for (int i = 0; i <= left; i++) {
            all.add("undo " + x.undo());
        }
        hours(x, all);
        for (int h = 0; h < houses; h++) {
            all.add("then " + h + ": " + x.of(h, 1) + " " + x.of(h, 2) + " " + x.of(h, 3));
        }
    }

    private static void imageAndTape(CoverFires x, List<String> all, boolean tapeToo) {
        all.add("back " + x.back() + ": " + x.about(0) + " " + x.about(1) + " " + x.about(3) + " X " + x.is(3));
        if (tapeToo) {
            all.add("text " + x.text() + " " + x.fault(0) + " " + x.fault(1));
        }
    }
}
