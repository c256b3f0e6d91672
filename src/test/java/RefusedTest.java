import java.util.List;
import java.util.function.Supplier;
import java.util.function.ToLongFunction;

/**
 * "Refused, and nothing changes, the first of these: BAD, STATE, FULL": each refused call in some states answers as told,
 * and everything that can be asked behind it is answered as it is without it. Calls that ask alone change nothing either.
 */
final class RefusedTest {
    private static final int BAD = -1, STATE = -2, FULL = -3, NO = -1000000;
    private static final int LEAST = Integer.MIN_VALUE, MOST = Integer.MAX_VALUE;

    private final Checks checks = new Checks();
    private Supplier<NoteBells> made;
    private List<String> asked;
    private List<String> broughtOut;
    private String state;

    public static void main(String[] args) {
        RefusedTest t = new RefusedTest();
        t.inANewObject();
        t.inTheMidst();
        t.whereNothingIsSilent();
        t.whereAllIsFull();
        t.faultsInTheMidst();
        t.callsThatAskAlone();
        t.checks.end();
    }

    // ---- the states

    private static NoteBells midst() {
        NoteBells x = Checks.shaft("level 20 3 1;level 30 1 0;level 44 2 1;man 0;man 1;ear 4;wet 2;pace 2;");
        x.year();
        Checks.hear(x, 10, 16, 12, 18);
        Checks.sing(x, 16, 40, 27);
        x.falls(2);
        x.mark(4, 1);
        x.keep(0);
        x.year();
        x.wet(3);
        x.climbs(0, 2);
        x.falls(1);
        Checks.hear(x, 13, 26);
        Checks.sing(x, 27);
        Checks.type(x, "ear 5;man 0");
        return x;
    }

    private static NoteBells full() {
        NoteBells x = Checks.shaft("level 60 1 1;level 52 1 0;level 44 1 1;level 36 0 0;level 28 0 0;level 20 0 0;level 12 9 1;level 4 9 1;"
            + "man 0;man 3;man 7;ear 9;wet 9;pace 4;");
        x.keep(1);
        x.year();
        Checks.hear(x, 40, 55, 40, 18, 42, 55, 43, 20, 43, 0, 99, 40);
        Checks.sing(x, 55, 40, 30, 20, 10, 0, -10, -20);
        x.falls(0);
        x.keep(0);
        x.mark(5, 7);
        Checks.type(x, "ear 7;" + " ".repeat(194));
        return x;
    }

    private void in(String name, Supplier<NoteBells> state) {
        checks.of("Refused, and nothing changes, in " + name);
        this.state = name;
        made = state;
        asked = Probe.asked(state.get());
        broughtOut = Probe.broughtOut(state.get());
    }

    /** A call that is refused, and behind which all stands as ahead of it. */
    private void refused(String call, long want, ToLongFunction<NoteBells> made) {
        NoteBells x = this.made.get();
        checks.due(call, made.applyAsLong(x), want);
        same(call, asked, Probe.asked(x));
        NoteBells y = this.made.get();
        checks.due(call, made.applyAsLong(y), want);
        same(call, broughtOut, Probe.broughtOut(y));
    }

    private void same(String call, List<String> without, List<String> behind) {
        for (int i = 0; i < without.size(); i++) {
            if (!without.get(i).equals(behind.get(i))) {
                System.out.println(state + ", behind " + call + ": " + behind.get(i) + ", without it: " + without.get(i));
                checks.isTrue("nothing changes by " + call, false);
                return;
            }
        }
        checks.isTrue("nothing changes by " + call, without.size() == behind.size());
    }

    // ---- the calls

    /** Calls that are BAD in any state: beyond all LEVELS, MEN, notes and kinds that there can ever be. */
    private void badInAnyState() {
        int[] beyond = {LEAST, -1, 8, 100, MOST};
        for (int n : beyond) {
            refused("level(" + n + ", 0)", NO, x -> x.level(n, 0));
            refused("level(0, " + n + ")", NO, x -> x.level(0, n));
            refused("man(" + n + ")", BAD, x -> x.man(n));
            refused("taken(" + n + ")", BAD, x -> x.taken(n));
            refused("climbs(" + n + ", 0)", BAD, x -> x.climbs(n, 0));
            refused("climbs(0, " + n + ")", BAD, x -> x.climbs(0, n));
            refused("plucks(" + n + ")", NO, x -> x.plucks(n));
            refused("falls(" + n + ")", BAD, x -> x.falls(n));
            refused("where(" + n + ")", BAD, x -> x.where(n));
            refused("keeps(" + n + ")", BAD, x -> x.keeps(n));
            refused("meet(" + n + ", 0)", BAD, x -> x.meet(n, 0));
            refused("meet(0, " + n + ")", BAD, x -> x.meet(0, n));
            refused("by(" + n + ", 0)", BAD, x -> x.by(n, 0));
            refused("by(0, " + n + ")", BAD, x -> x.by(0, n));
            refused("mark(" + n + ", 0)", NO, x -> x.mark(n, 0));
            refused("mark(0, " + n + ")", NO, x -> x.mark(0, n));
            refused("keep(" + n + ")", BAD, x -> x.keep(n));
            refused("back(" + n + ")", BAD, x -> x.back(n));
        }
        int[] noNotes = {LEAST, -100, 100, MOST};
        for (int note : noNotes) {
            refused("comes(" + note + ")", BAD, x -> x.comes(note));
            refused("heard(99, " + note + ")", BAD, x -> x.heard(99, note));
            refused("sing(" + note + ")", BAD, x -> x.sing(note));
        }
        int[] noMinutes = {LEAST, -1, 100, MOST};
        for (int minute : noMinutes) {
            refused("heard(" + minute + ", 0)", BAD, x -> x.heard(minute, 0));
        }
        int[] notOfANumber = {LEAST, -1, 0, 9, MOST};
        for (int n : notOfANumber) {
            refused("type(59, " + n + ")", BAD, x -> x.type(59, n));
        }
        refused("wet(-1)", BAD, x -> x.wet(-1));
        refused("wet(10)", BAD, x -> x.wet(10));
        refused("count(-1)", BAD, x -> x.count(-1));
        refused("count(9)", BAD, x -> x.count(9));
        refused("keep(2)", BAD, x -> x.keep(2));
        refused("back(2)", BAD, x -> x.back(2));
        refused("mark(6, 0)", NO, x -> x.mark(6, 0));
        refused("level(0, 4)", NO, x -> x.level(0, 4));
        refused("meet(0, 0)", BAD, x -> x.meet(0, 0));
    }

    private void inANewObject() {
        in("a new object", NoteBells::new);
        badInAnyState();
        refused("level(0, 0)", NO, x -> x.level(0, 0));
        refused("man(0)", BAD, x -> x.man(0));
        refused("taken(0)", BAD, x -> x.taken(0));
        refused("climbs(0, 0)", BAD, x -> x.climbs(0, 0));
        refused("plucks(0)", NO, x -> x.plucks(0));
        refused("falls(0)", BAD, x -> x.falls(0));
        refused("mends()", STATE, x -> x.mends());
        refused("where(0)", BAD, x -> x.where(0));
        refused("meet(0, 1)", BAD, x -> x.meet(0, 1));
        refused("by(0, 0)", BAD, x -> x.by(0, 0));
        refused("mark(0, 0)", NO, x -> x.mark(0, 0));
        refused("back(0)", STATE, x -> x.back(0));
        refused("back(1)", STATE, x -> x.back(1));
    }

    private void inTheMidst() {
        in("the midst", RefusedTest::midst);
        badInAnyState();
        refused("level(3, 0)", NO, x -> x.level(3, 0));
        refused("man(2)", BAD, x -> x.man(2));
        refused("taken(3)", BAD, x -> x.taken(3));
        refused("climbs(2, 0)", BAD, x -> x.climbs(2, 0));
        refused("climbs(0, 3)", BAD, x -> x.climbs(0, 3));
        refused("climbs(2, 3)", BAD, x -> x.climbs(2, 3));
        refused("climbs(0, 2), he is there", STATE, x -> x.climbs(0, 2));
        refused("climbs(1, 1), he is there", STATE, x -> x.climbs(1, 1));
        refused("plucks(0), SILENT", NO, x -> x.plucks(0));
        refused("plucks(1), SILENT", NO, x -> x.plucks(1));
        refused("plucks(2)", NO, x -> x.plucks(2));
        refused("falls(1), there", STATE, x -> x.falls(1));
        refused("falls(2), higher", STATE, x -> x.falls(2));
        refused("falls(3), BAD ahead of STATE", BAD, x -> x.falls(3));
        refused("heard(12, 0), earlier", BAD, x -> x.heard(12, 0));
        refused("heard(0, 0), earlier", BAD, x -> x.heard(0, 0));
        refused("where(3)", BAD, x -> x.where(3));
        refused("meet(1, 1)", BAD, x -> x.meet(1, 1));
        refused("meet(1, 3)", BAD, x -> x.meet(1, 3));
        refused("meet(3, 1)", BAD, x -> x.meet(3, 1));
        refused("by(4, 0)", BAD, x -> x.by(4, 0));
        refused("by(3, 2)", BAD, x -> x.by(3, 2));
        refused("mark(0, 3)", NO, x -> x.mark(0, 3));
        refused("back(1), none was kept", STATE, x -> x.back(1));
        refused("back(2), BAD ahead of STATE", BAD, x -> x.back(2));
        refused("shaft(), a FAULT", -10 - 10, x -> x.shaft());
    }

    private void whereNothingIsSilent() {
        in("a shaft with a whole rope", () -> {
            NoteBells x = midst();
            x.mends();
            return x;
        });
        refused("mends()", STATE, x -> x.mends());
        refused("plucks(2)", NO, x -> x.plucks(2));
        refused("falls(3)", BAD, x -> x.falls(3));
    }

    private void whereAllIsFull() {
        in("a full object", RefusedTest::full);
        badInAnyState();
        refused("type(59, 1)", FULL, x -> x.type(59, 1));
        refused("type(59, 8)", FULL, x -> x.type(59, 8));
        refused("type(59, 9), BAD ahead of FULL", BAD, x -> x.type(59, 9));
        refused("type(59, 0), BAD ahead of FULL", BAD, x -> x.type(59, 0));
        refused("heard(99, 0)", FULL, x -> x.heard(99, 0));
        refused("heard(99, 99)", FULL, x -> x.heard(99, 99));
        refused("heard(98, 0), BAD ahead of FULL", BAD, x -> x.heard(98, 0));
        refused("heard(100, 0), BAD ahead of FULL", BAD, x -> x.heard(100, 0));
        refused("heard(99, 100), BAD ahead of FULL", BAD, x -> x.heard(99, 100));
        refused("sing(0)", FULL, x -> x.sing(0));
        refused("sing(-99)", FULL, x -> x.sing(-99));
        refused("sing(100), BAD ahead of FULL", BAD, x -> x.sing(100));
        refused("sing(-100), BAD ahead of FULL", BAD, x -> x.sing(-100));
        for (int l = 0; l < 8; l++) {
            int fell = l;
            refused("falls(" + l + ")", STATE, x -> x.falls(fell));
        }
        refused("falls(8), BAD ahead of STATE", BAD, x -> x.falls(8));
        refused("climbs(2, 7), he is there", STATE, x -> x.climbs(2, 7));
        refused("climbs(2, 8), BAD ahead of STATE", BAD, x -> x.climbs(2, 8));
        refused("climbs(3, 0), BAD ahead of STATE", BAD, x -> x.climbs(3, 0));
        refused("where(6)", BAD, x -> x.where(6));
        refused("by(8, 0)", BAD, x -> x.by(8, 0));
        for (int m = 0; m < 3; m++) {
            int man = m;
            refused("plucks(" + m + ")", NO, x -> x.plucks(man));
        }
    }

    /** A text that tells all anew, and has a FAULT at its end. */
    private void faultsInTheMidst() {
        String[] texts = {"level 1 1 0;ear 1;wet 1;pace 4;man 1;", "level 9 9 0;".repeat(8) + "man 7;man 7;man 7;man 7;", "level 9 9 0;".repeat(9),
            "ear 0;ear", "wet 1;wet 2;", "pace 1;pace 2;", "level 9 9 2;", "level 9 10 1;", "level 61 9 1;", "ear 10;", "wet 10;", "pace 0;", "pace 5;",
            "level 9 9 1", "!", ";", "level 1 1 0;levels", "level 1 1 0;wet 09;", "level 1 1 0;wet 100;", "man 0;"};
        int[] places = {35, 114, 96, 6, 6, 7, 10, 8, 6, 4, 4, 5, 5, 11, 0, 0, 12, 16, 16, 4};
        for (int i = 0; i < texts.length; i++) {
            String text = texts[i];
            in("the midst with a text of a FAULT", () -> {
                NoteBells x = midst();
                x.clear();
                Checks.type(x, text);
                return x;
            });
            refused("shaft() of '" + text + "'", -10 - places[i], x -> x.shaft());
        }
    }

    /** A call that tells something is no change either: asked again, all answers as ahead of it. */
    private void callsThatAskAlone() {
        in("the midst, by a call that asks", RefusedTest::midst);
        asks("level()", x -> x.level(2, 3));
        asks("man()", x -> x.man(1));
        asks("taken()", x -> x.taken(1));
        asks("comes()", x -> x.comes(18));
        asks("plucks()", x -> x.plucks(0));
        asks("tracks()", x -> x.tracks());
        asks("where()", x -> x.where(1));
        asks("men()", x -> x.men());
        asks("keeps()", x -> x.keeps(1));
        asks("meet()", x -> x.meet(0, 2));
        asks("first()", x -> x.first());
        asks("climbing()", x -> x.climbing());
        asks("by()", x -> x.by(2, 1));
        asks("count()", x -> x.count(8));
        asks("trace()", x -> x.trace());
        asks("keep() of what was kept", x -> {
            x.back(0);
            return x.keep(0) + x.back(0);
        }, x -> {
            return x.back(0);
        });
        asks("wet() as it is", x -> x.wet(3));
        asks("climbs() there and back", x -> x.climbs(0, 0) + x.climbs(0, 2));
    }

    private void asks(String call, ToLongFunction<NoteBells> made) {
        asks(call, made, x -> 0);
    }

    /** Behind the one call or calls all stands as it does behind the other. */
    private void asks(String call, ToLongFunction<NoteBells> made, ToLongFunction<NoteBells> other) {
        NoteBells x = this.made.get();
        NoteBells y = this.made.get();
        made.applyAsLong(x);
        other.applyAsLong(y);
        same(call, Probe.broughtOut(y), Probe.broughtOut(x));
    }
}
