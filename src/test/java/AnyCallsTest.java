import java.util.List;
import java.util.Random;

/**
 * Any calls with any arguments in any state: none may throw, and no refused one changes anything. Each call that is not
 * refused is made on a twin, too: it answers the same, and at the end the twin, that knows of no refused call, stands alike.
 */
final class AnyCallsTest {
    private static final int[] ODD = {Integer.MIN_VALUE, Integer.MIN_VALUE + 1, -1000000, -100, -99, -1, 8, 9, 10, 99, 100, 200, 999, 1000, Integer.MAX_VALUE - 1, Integer.MAX_VALUE};
    private static final String[] TEXTS = {
        "level 20 1 1;", "man 0;", "ear 3;", "wet 5;", "pace 2;", " ", ";", "level", "man", "level 0 9 0;level 60 0 1;level 9 9 1;", "ear9;wet9;pace4;", "\u00ff"};
    /** A call may type up to five texts of up to 37 bytes; the probe makes some 380 of the 512 calls of an object. */
    private static final int CALLS = 90;

    private final Checks checks = new Checks();
    private final Random random = new Random(31);
    private int made;
    private int first;
    private int second;
    private long text;

    public static void main(String[] args) {
        AnyCallsTest t = new AnyCallsTest();
        for (int run = 0; run < 4000; run++) {
            t.oneRun(run);
        }
        t.checks.end();
    }

    private void oneRun(int run) {
        NoteBells x = new NoteBells();
        NoteBells twin = new NoteBells();
        made = 0;
        while (made < CALLS) {
            anyCall(x, twin);
        }
        List<String> wants = Probe.broughtOut(twin);
        List<String> got = Probe.broughtOut(x);
        for (int i = 0; i < wants.size(); i++) {
            if (!wants.get(i).equals(got.get(i))) {
                System.out.println("run " + run + ": with refused calls " + got.get(i) + ", without " + wants.get(i));
            }
        }
        checks.isTrue("run " + run + ", refused calls change nothing", wants.equals(got));
    }

    private int number() {
        return random.nextInt(3) == 0 ? ODD[random.nextInt(ODD.length)] : random.nextInt(70) - 3;
    }

    private int small() {
        return random.nextInt(8) == 0 ? number() : random.nextInt(4);
    }

    private void anyCall(NoteBells x, NoteBells twin) {
        int which = random.nextInt(31);
        boolean wide = which == 0 || which == 7 || which == 13 || which == 21;
        first = wide ? number() : small();
        second = wide ? number() : small();
        text = random.nextLong();
        if (which >= 29) {
            readText(x, twin);
            return;
        }
        // A BOOK, a HYMN and a text are emptied less often than filled.
        if ((which == 1 || which == 14 || which == 22) && random.nextInt(4) > 0) {
            return;
        }
        made++;
        long answer = call(x, which);
        boolean refused = answer == -1 || answer == -2 || answer == -3 || answer == -1000000 || which == 2 && answer < 0;
        // mark() and level() may well answer -1 to -3 for what there is: mark() has then been traced.
        if (!refused || which == 25 && answer != -1000000) {
            checks.due("call " + which + " of the twin", call(twin, which), answer);
        }
    }

    private void readText(NoteBells x, NoteBells twin) {
        StringBuilder b = new StringBuilder();
        for (int i = random.nextInt(5); i >= 0; i--) {
            b.append(TEXTS[random.nextInt(TEXTS.length)]);
        }
        x.clear();
        Checks.type(x, b.toString());
        made += b.length() / 8 + 3;
        boolean reads = x.shaft() >= 0;
        twin.clear();
        if (reads) {
            Checks.type(twin, b.toString());
            twin.shaft();
        } else {
            x.clear();
        }
    }

    private long call(NoteBells x, int which) {
        switch (which) {
            case 0:
                return x.type(text, first);
            case 1:
                return x.clear();
            case 2:
                return x.shaft();
            case 3:
                return x.level(first, second);
            case 4:
                return x.man(first);
            case 5:
                return x.wet(first);
            case 6:
                return x.taken(first);
            case 7:
                return x.comes(first);
            case 8:
                return x.climbs(first, second);
            case 9:
                return x.plucks(first);
            case 10:
                return x.falls(first);
            case 11:
                return x.mends();
            case 12:
                return x.year();
            case 13:
                return x.heard(first, second);
            case 14:
                return x.forget();
            case 15:
                return x.tracks();
            case 16:
                return x.where(first);
            case 17:
                return x.men();
            case 18:
                return x.keeps(first);
            case 19:
                return x.meet(first, second);
            case 20:
                return x.first();
            case 21:
                return x.sing(first);
            case 22:
                return x.hush();
            case 23:
                return x.climbing();
            case 24:
                return x.by(first, second);
            case 25:
                return x.mark(first, second);
            case 26:
                return x.keep(first);
            case 27:
                return x.back(first);
            default:
                return x.count(first);
        }
    }
}
