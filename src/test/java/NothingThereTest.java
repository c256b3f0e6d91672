import java.util.function.Supplier;

/** What each promise answers where there are none: no bytes, no LEVELS, nobody, no notes, no HYMN, no IMAGES. */
final class NothingThereTest {
    private static final int BAD = -1, STATE = -2, NONE = -9, NO = -1000000;
    private static final int LEAST = Integer.MIN_VALUE, MOST = Integer.MAX_VALUE;

    private final Checks checks = new Checks();
    private Supplier<NoteBells> made;

    public static void main(String[] args) {
        NothingThereTest t = new NothingThereTest();
        t.in("a new object", NoteBells::new);
        t.in("a shaft of a text of no bytes", () -> Checks.shaft(""));
        t.in("a shaft of blanks", () -> Checks.shaft("    "));
        t.in("a shaft that was read anew by no bytes", () -> {
            NoteBells x = Checks.shaft("level 20 3 1;level 30 0 1;man 0;man 1;ear 3;wet 4;pace 2;");
            x.year();
            x.falls(0);
            Checks.hear(x, 99, 18, 99, 26);
            Checks.sing(x, 18, 26);
            x.keep(0);
            x.keep(1);
            x.shaft();
            return x;
        });
        t.nobody();
        t.constants();
        t.checks.end();
    }

    private void due(String call, long got, long want) {
        checks.due(call, got, want);
    }

    private void in(String name, Supplier<NoteBells> made) {
        checks.of("in " + name);
        this.made = made;
        noBytes();
        noLevels();
        noNotes();
        noHymn();
        noImages();
        changesAllTheSame();
    }

    private void noBytes() {
        NoteBells x = made.get();
        due("Promise 30: count(8)", x.count(8), 0);
        due("Promise 3: clear()", x.clear(), 0);
        due("Promise 4: shaft()", x.shaft(), 0);
        due("Promise 2: type(32, 1)", x.type(32, 1), 1);
        due("Promise 3: clear() of one", x.clear(), 1);
        due("Promise 3: clear() again", x.clear(), 0);
    }

    private void noLevels() {
        NoteBells x = made.get();
        int[] wants = {0, 0, 0, 0, 1, 0, 0, 0, 0};
        for (int what = 0; what < wants.length; what++) {
            due("Promise 30: count(" + what + ")", x.count(what), wants[what]);
        }
        int[] numbers = {LEAST, -1, 0, 1, 7, 8, MOST};
        for (int n : numbers) {
            for (int what = 0; what < 4; what++) {
                due("Promise 5: level(" + n + ", " + what + ")", x.level(n, what), NO);
            }
            due("Promise 6: man(" + n + ")", x.man(n), BAD);
            due("Promise 8: taken(" + n + ")", x.taken(n), BAD);
            due("Promise 10: climbs(" + n + ", 0)", x.climbs(n, 0), BAD);
            due("Promise 10: climbs(0, " + n + ")", x.climbs(0, n), BAD);
            due("Promise 11: plucks(" + n + ")", x.plucks(n), NO);
            due("Promise 12: falls(" + n + ")", x.falls(n), BAD);
            due("Promise 21: meet(" + n + ", 0)", x.meet(n, 0), BAD);
            due("Promise 21: meet(0, " + n + ")", x.meet(0, n), BAD);
            due("Promise 27: mark(0, " + n + ")", x.mark(0, n), NO);
            due("Promise 27: mark(" + n + ", 0)", x.mark(n, 0), NO);
        }
        due("Promise 9: comes(0)", x.comes(0), 0);
        due("Promise 9: comes(-99)", x.comes(-99), 0);
        due("Promise 9: comes(99)", x.comes(99), 0);
        due("Promise 9: comes(100)", x.comes(100), BAD);
        due("Promise 13: mends()", x.mends(), STATE);
        due("Promise 20: keeps(0)", x.keeps(0), 0);
        due("Promise 20: keeps(1)", x.keeps(1), 0);
        due("Promise 22: first()", x.first(), NONE);
        due("Promise 31: trace()", x.trace(), 0);
    }

    private void noNotes() {
        NoteBells x = made.get();
        due("Promise 17: tracks()", x.tracks(), 1);
        due("Promise 18: where(0)", x.where(0), BAD);
        due("Promise 19: men()", x.men(), 0);
        due("Promise 16: forget()", x.forget(), 0);
        due("Promise 15: heard(0, 0)", x.heard(0, 0), 1);
        due("Promise 17: tracks() of one", x.tracks(), 0);
        due("Promise 18: where(0) of one", x.where(0), 0);
        due("Promise 18: where(1) of one", x.where(1), BAD);
        due("Promise 19: men() of one", x.men(), NONE);
        due("Promise 16: forget() of one", x.forget(), 1);
        due("Promise 16: forget() again", x.forget(), 0);
        due("Promise 17: tracks() again", x.tracks(), 1);
    }

    private void noHymn() {
        NoteBells x = made.get();
        due("Promise 25: climbing()", x.climbing(), 0);
        due("Promise 26: by(0, 0)", x.by(0, 0), BAD);
        due("Promise 24: hush()", x.hush(), 0);
        due("Promise 23: sing(0)", x.sing(0), 1);
        due("Promise 25: climbing() of one", x.climbing(), NONE);
        due("Promise 26: by(0, 0) of one", x.by(0, 0), NONE);
        due("Promise 26: by(0, 1) of one", x.by(0, 1), NONE);
        due("Promise 26: by(0, 2) of one", x.by(0, 2), BAD);
        due("Promise 26: by(1, 0) of one", x.by(1, 0), BAD);
        due("Promise 24: hush() of one", x.hush(), 1);
        due("Promise 24: hush() again", x.hush(), 0);
        due("Promise 25: climbing() again", x.climbing(), 0);
    }

    private void noImages() {
        NoteBells x = made.get();
        due("Promise 29: back(0)", x.back(0), STATE);
        due("Promise 29: back(1)", x.back(1), STATE);
        due("Promise 29: back(2)", x.back(2), BAD);
        due("Promise 28: keep(1)", x.keep(1), 0);
        due("Promise 29: back(0), the other was kept", x.back(0), STATE);
        due("Promise 29: back(1), it was kept", x.back(1), 0);
    }

    private void changesAllTheSame() {
        NoteBells x = made.get();
        due("Promise 14: year()", x.year(), 1);
        due("Promise 7: wet(9)", x.wet(9), 0);
        due("Promise 7: wet(3)", x.wet(3), 9);
        due("Promise 28: keep(0)", x.keep(0), 1);
        for (int n = 1; n <= 6; n++) {
            due("Promise 15: heard(5, 0)", x.heard(5, 0), n);
        }
        due("Promise 15: a seventh", x.heard(5, 0), -3);
        due("Promise 29: back(0)", x.back(0), 1);
        due("Promise 16: forget()", x.forget(), 0);
        due("Promise 30: count(3)", x.count(3), 3);
    }

    /** LEVELS, but nobody. */
    private void nobody() {
        checks.of("in a shaft with nobody");
        NoteBells x = Checks.shaft("level 20 3 1;level 30 0 1;");
        due("Promise 30: count(1)", x.count(1), 0);
        due("Promise 6: man(0)", x.man(0), BAD);
        due("Promise 10: climbs(0, 0)", x.climbs(0, 0), BAD);
        due("Promise 11: plucks(0)", x.plucks(0), NO);
        due("Promise 25: climbing()", x.climbing(), 0);
        x.sing(20);
        due("Promise 25: climbing() of a HYMN", x.climbing(), NONE);
        due("Promise 26: by(0, 0)", x.by(0, 0), NONE);
        due("Promise 26: by(0, 1)", x.by(0, 1), NONE);
        due("Promise 27: mark(5, 0)", x.mark(5, 0), 20);
        x.heard(0, 20);
        due("Promise 19: men()", x.men(), 1);
        due("Promise 17: tracks()", x.tracks(), 1);
        due("Promise 12: falls(0)", x.falls(0), 2);
        due("Promise 13: mends()", x.mends(), 2);
    }

    private void constants() {
        checks.of("The constants");
        due("BAD", NoteBells.BAD, -1);
        due("STATE", NoteBells.STATE, -2);
        due("FULL", NoteBells.FULL, -3);
        due("NONE", NoteBells.NONE, -9);
        due("NO", NoteBells.NO, -1000000);
    }
}
