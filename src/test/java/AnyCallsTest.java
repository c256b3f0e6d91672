import java.util.Random;

/** Any calls with any arguments in any state: none may throw, and no refused one changes what can be asked. */
final class AnyCallsTest {
    private static final int[] ODD = {Integer.MIN_VALUE, Integer.MIN_VALUE + 1, -1000000, -100, -99, -1, 8, 9, 10, 99, 100, 200, 999, 1000, Integer.MAX_VALUE - 1, Integer.MAX_VALUE};
    private static final String[] TEXTS = {
        "level 20 1 1;", "man 0;", "ear 3;", "wet 5;", "pace 2;", " ", ";", "level", "man", "level 0 9 0;level 60 0 1;level 9 9 1;", "ear9;wet9;pace4;", "\u00ff"};

    private final Checks checks = new Checks();
    private final Random random = new Random(31);

    public static void main(String[] args) {
        AnyCallsTest t = new AnyCallsTest();
        for (int run = 0; run < 1500; run++) {
            NoteBells x = new NoteBells();
            for (int call = 0; call < 200; call++) {
                t.anyCall(x);
            }
        }
        t.checks.end();
    }

    private int number() {
        return random.nextInt(3) == 0 ? ODD[random.nextInt(ODD.length)] : random.nextInt(70) - 3;
    }

    private int small() {
        return random.nextInt(8) == 0 ? number() : random.nextInt(4);
    }

    private void anyCall(NoteBells x) {
        long before = asked(x);
        int which = random.nextInt(30);
        long answer = call(x, which);
        boolean refused = answer == -1 || answer == -2 || answer == -3 || answer == -1000000 || which == 2 && answer < 0;
        // mark() may well answer -1 to -3 for a mark, and then the trace has grown.
        if (refused && which != 25) {
            checks.due("what stands behind call " + which, asked(x), before);
        }
    }

    private long call(NoteBells x, int which) {
        switch (which) {
            case 0:
                return x.type(random.nextLong(), number());
            case 1:
                return random.nextInt(4) == 0 ? x.clear() : 0;
            case 2:
                return x.shaft();
            case 3:
                return x.level(small(), small());
            case 4:
                return x.man(small());
            case 5:
                return x.wet(small());
            case 6:
                return x.taken(small());
            case 7:
                return x.comes(number());
            case 8:
                return x.climbs(small(), small());
            case 9:
                return x.plucks(small());
            case 10:
                return x.falls(small());
            case 11:
                return x.mends();
            case 12:
                return x.year();
            case 13:
                return x.heard(number(), number());
            case 14:
                return random.nextInt(4) == 0 ? x.forget() : 0;
            case 15:
                return x.tracks();
            case 16:
                return x.where(small());
            case 17:
                return x.men();
            case 18:
                return x.keeps(small());
            case 19:
                return x.meet(small(), small());
            case 20:
                return x.first();
            case 21:
                return x.sing(number());
            case 22:
                return random.nextInt(4) == 0 ? x.hush() : 0;
            case 23:
                return x.climbing();
            case 24:
                return x.by(small(), small());
            case 25:
                return x.mark(small(), small());
            case 26:
                return x.keep(small());
            case 27:
                return x.back(small());
            case 28:
                return x.count(small());
            default:
                x.clear();
                for (int i = random.nextInt(6); i >= 0; i--) {
                    Checks.type(x, TEXTS[random.nextInt(TEXTS.length)]);
                }
                return x.shaft() < 0 ? x.clear() : 0;
        }
    }

    /** A sum of all that can be asked without a change. */
    private static long asked(NoteBells x) {
        long sum = x.trace();
        for (int what = 0; what < 9; what++) {
            sum = sum * 31 + x.count(what);
        }
        for (int i = 0; i < 8; i++) {
            sum = sum * 31 + x.level(i, 0);
            sum = sum * 31 + x.level(i, 3);
            sum = sum * 31 + x.where(i);
        }
        for (int m = 0; m < 3; m++) {
            sum = sum * 31 + x.man(m);
            sum = sum * 31 + x.plucks(m);
        }
        return sum * 31 + x.tracks();
    }
}
