import java.util.Random;

/** Calls with any arguments in any state: none may throw. An object is used for at most 512 of them. */
public final class NeverThrowsTest {
    private static final int[] ODD_NUMBERS = {Integer.MIN_VALUE, Integer.MIN_VALUE + 1, -10000, -300, -31, -3, -2, -1, 0, 1, 2,
            3, 4, 5, 6, 7, 8, 9, 10, 20, 23, 24, 29, 30, 31, 32, 33, 60, 61, 99, 100, 300, 301, 9999, 10000, 65536,
            Integer.MAX_VALUE - 1, Integer.MAX_VALUE};

    private final Random random;
    private final CoverFires x = new CoverFires();

    private NeverThrowsTest(int seed) {
        random = new Random(seed);
    }

    public static void main(String[] args) {
        for (int seed = 0; seed < 1200; seed++) {
            new NeverThrowsTest(seed).go();
        }
        Due.finish();
    }

    private void go() {
        int houses = random.nextInt(9);
        for (int h = 0; h < houses; h++) {
            x.house(random.nextInt(10), random.nextInt(100));
            x.street(h, random.nextInt(8), random.nextInt(100));
        }
        for (int call = 0; call < 330; call++) {
            one(random.nextInt(46));
            if (call % 20 == 0) {
                Due.is("within bounds", x.about(0) <= 8 && x.about(1) <= 4 && x.about(3) <= 30, true);
            }
        }
        x.hour(Integer.MAX_VALUE);
        x.house(Integer.MAX_VALUE, Integer.MIN_VALUE);
    }

    private int any() {
        return random.nextInt(3) > 0 ? random.nextInt(9) : ODD_NUMBERS[random.nextInt(ODD_NUMBERS.length)];
    }

    private boolean either() {
        return random.nextBoolean();
    }

    private void one(int which) {
        switch (which) {
            case 0: x.house(any(), any()); break;
            case 1: x.street(any(), any(), any()); break;
            case 2: x.feed(any(), any(), any(), any(), any()); break;
            case 3: x.end(any()); break;
            case 4: x.text(); break;
            case 5: x.fault(any()); break;
            case 6: x.by(any()); break;
            case 7: x.light(any()); break;
            case 8: x.cover(any()); break;
            case 9: x.open(any()); break;
            case 10: x.fetch(any(), any()); break;
            case 11: x.quench(any()); break;
            case 12: x.warden(any()); break;
            case 13: x.hour(any()); break;
            case 14: x.played(any()); break;
            case 15: x.winters(any(), any()); break;
            case 16: x.undo(); break;
            case 17: x.of(any(), any()); break;
            case 18: x.is(any()); break;
            case 19: x.book(any(), any()); break;
            case 20: x.foretold(any(), any(), any()); break;
            case 21: x.out(any()); break;
            case 22: x.far(any(), any()); break;
            default: another(which); break;
        }
    }

    private void another(int which) {
        switch (which) {
            case 23: x.round(any()); break;
            case 24: x.again(any()); break;
            case 25: x.warmth(any(), any()); break;
            case 26: x.ring(any()); break;
            case 27: x.dawn(any(), any()); break;
            case 28: x.chain(any()); break;
            case 29: x.stone(any(), either()); break;
            case 30: x.seen(any(), any(), either()); break;
            case 31: x.began(any()); break;
            case 32: x.whom(); break;
            case 33: x.bid(any(), any()); break;
            case 34: x.leave(any(), either()); break;
            case 35: x.cooled(any(), any()); break;
            case 36: x.whose(); break;
            case 37: x.befell(any(), any()); break;
            case 38: x.parts(); break;
            case 39: x.warmest(); break;
            case 40: x.leaves(); break;
            case 41: x.kept(); break;
            case 42: x.image(); break;
            case 43: x.back(); break;
            case 44: x.about(any()); break;
            default: Due.read(x, "cools " + random.nextInt(9) + ";" + "hour " + (1 + random.nextInt(60)) + ";"); break;
        }
    }
}
