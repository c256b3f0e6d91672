/**
 * "Promise 1" to "Promise 31": for each number that a call takes the least and the greatest that it may be, one less and
 * one more, the least and the greatest int, and numbers that come to a good one if they are cut to fewer bits.
 */
final class NumbersTest {
    private static final int BAD = -1, FULL = -3, NO = -1000000;
    private static final int LEAST = Integer.MIN_VALUE, MOST = Integer.MAX_VALUE;

    private final Checks checks = new Checks();

    /** A call with one of its numbers left open. */
    private interface Call {
        long with(NoteBells x, int n);
    }

    public static void main(String[] args) {
        NumbersTest t = new NumbersTest();
        t.typesN();
        t.typesV();
        t.levelsNumbers();
        t.mansNumber();
        t.wetsNumber();
        t.takensNumber();
        t.comesNumber();
        t.climbsNumbers();
        t.plucksNumber();
        t.fallsNumber();
        t.heardsNumbers();
        t.wheresNumber();
        t.keepsNumber();
        t.meetsNumbers();
        t.singsNumber();
        t.bysNumbers();
        t.marksNumbers();
        t.imagesNumbers();
        t.countsNumber();
        t.checks.end();
    }

    /** Three LEVELS, two MEN, two notes in THE BOOK, three of the HYMN; both IMAGES are kept. */
    private static NoteBells made() {
        NoteBells x = Checks.shaft("level 20 3 1;level 30 1 0;level 40 2 1;man 2;man 0;ear 4;");
        Checks.hear(x, 10, 20, 11, 30);
        Checks.sing(x, 20, 30, 40);
        x.keep(0);
        x.year();
        x.keep(1);
        x.back(0);
        return x;
    }

    /** What a call answers for the least and the greatest number, and that all others are refused. */
    private void number(String call, int least, long wantLeast, int greatest, long wantGreatest, long refused, Call asked) {
        checks.due(call + " of the least, " + least, asked.with(made(), least), wantLeast);
        checks.due(call + " of the greatest, " + greatest, asked.with(made(), greatest), wantGreatest);
        int[] beyond = {least - 1, greatest + 1, LEAST, MOST, LEAST + 1, MOST - 1, LEAST + least, LEAST + greatest, -1, -least - 1, -greatest - 1,
            least + 256, least - 256, greatest + 256, greatest - 256, least + 65536, least - 65536, least + 32, least - 32, least + 64, greatest + 32,
            least + (1 << 29), least + (1 << 30), 1000, -1000};
        for (int n : beyond) {
            if (n < least || n > greatest) {
                checks.due(call + " of " + n, asked.with(made(), n), refused);
            }
        }
    }

    private void typesN() {
        checks.of("Promise 2");
        number("type(v, n)", 1, 1, 8, 8, BAD, (x, n) -> x.type(0x2020202020202020L, n));
        for (int n = 1; n <= 8; n++) {
            checks.due("type(v, " + n + ") has", made().type(-1L, n), n);
        }
        NoteBells x = new NoteBells();
        for (int i = 1; i <= 200; i++) {
            checks.due("byte " + i, x.type(32, 1), i);
        }
        checks.due("byte 201", x.type(32, 1), FULL);
        for (int n = 1; n <= 8; n++) {
            NoteBells y = new NoteBells();
            Checks.type(y, " ".repeat(200 - n));
            if (n < 8) {
                checks.due("one byte too many of " + (n + 1), y.type(0x2020202020202020L, n + 1), FULL);
            }
            checks.due("the last " + n, y.type(0x2020202020202020L, n), 200);
            checks.due("one more", y.type(32, 1), FULL);
            checks.due("BAD ahead of FULL", y.type(32, 0), BAD);
        }
    }

    private void reads(long v, int n, int want) {
        NoteBells x = new NoteBells();
        checks.due("type(" + v + ", " + n + ")", x.type(v, n), n);
        checks.due("shaft() of type(" + v + ", " + n + ")", x.shaft(), want);
    }

    private void typesV() {
        checks.of("Promise 2: the lowest n bytes of v, the highest of them first");
        reads(0x656172393BL, 5, 1);
        // The bytes above the lowest n are not asked.
        reads(0x7F7F7F656172393BL, 5, 1);
        reads(0xFFFFFF656172393BL, 5, 1);
        reads(0x800000656172393BL, 5, 1);
        reads(Long.MIN_VALUE | 0x20, 1, 0);
        reads(0xFFFFFFFFFFFFFF20L, 1, 0);
        reads(0x3B20, 1, 0);
        reads(0x2020202020202020L, 8, 0);
        // All of them are asked.
        reads(Long.MIN_VALUE, 8, -10);
        reads(Long.MAX_VALUE, 8, -10);
        reads(-1L, 8, -10);
        reads(-1L, 1, -10);
        reads(0L, 8, -10);
        reads(0xA020202020202020L, 8, -10);
        reads(0x20202020202020A0L, 8, -17);
        reads(0x20202020A0202020L, 8, -14);
        NoteBells x = new NoteBells();
        for (int n = 1; n <= 8; n++) {
            x.clear();
            checks.due("a sign in the last of " + n, x.type(0x202020202020203BL, n), n);
            checks.due("its place", x.shaft(), -10 - (n - 1));
        }
        // A negative v whose lowest bytes are plain: "wet 7;".
        NoteBells y = new NoteBells();
        checks.due("a negative v", y.type(0xFEDC77657420373BL, 6), 6);
        checks.due("shaft()", y.shaft(), 1);
        checks.due("count(3)", y.count(3), 7);
    }

    private void levelsNumbers() {
        checks.of("Promise 5");
        number("level(l, 0)", 0, 20, 2, 40, NO, (x, l) -> x.level(l, 0));
        number("level(l, 1)", 0, 3, 2, 2, NO, (x, l) -> x.level(l, 1));
        number("level(l, 2)", 0, 1, 2, 1, NO, (x, l) -> x.level(l, 2));
        number("level(l, 3)", 0, 20, 2, 40, NO, (x, l) -> x.level(l, 3));
        number("level(1, what)", 0, 30, 3, 30, NO, (x, what) -> x.level(1, what));
    }

    private void mansNumber() {
        checks.of("Promise 6");
        number("man(m)", 0, 2, 1, 0, BAD, (x, m) -> x.man(m));
    }

    private void wetsNumber() {
        checks.of("Promise 7");
        number("wet(w)", 0, 0, 9, 0, BAD, (x, w) -> x.wet(w));
        NoteBells x = made();
        for (int w = 1; w <= 9; w++) {
            checks.due("wet(" + w + ")", x.wet(w), w - 1);
            checks.due("count(3)", x.count(3), w);
        }
        checks.due("wet(10)", x.wet(10), BAD);
        checks.due("wet(9), as it is", x.wet(9), 9);
        checks.due("wet(0)", x.wet(0), 9);
        checks.due("wet(-1)", x.wet(-1), BAD);
        checks.due("count(3)", x.count(3), 0);
    }

    private void takensNumber() {
        checks.of("Promise 8");
        number("taken(l)", 0, 1, 2, 4, BAD, (x, l) -> x.taken(l));
    }

    private void comesNumber() {
        checks.of("Promise 9");
        number("comes(note)", -99, 0, 99, 0, BAD, (x, note) -> x.comes(note));
    }

    private void climbsNumbers() {
        checks.of("Promise 10");
        number("climbs(m, 1)", 0, 1, 1, 1, BAD, (x, m) -> x.climbs(m, 1));
        number("climbs(0, l)", 0, 2, 2, -2, BAD, (x, l) -> x.climbs(0, l));
        number("climbs(1, l)", 0, -2, 2, 2, BAD, (x, l) -> x.climbs(1, l));
        checks.due("climbs(2, 3), both beyond", made().climbs(2, 3), BAD);
    }

    private void plucksNumber() {
        checks.of("Promise 11");
        number("plucks(m)", 0, 40, 1, 20, NO, (x, m) -> x.plucks(m));
    }

    private void fallsNumber() {
        checks.of("Promise 12");
        number("falls(l)", 0, 3, 2, 1, BAD, (x, l) -> x.falls(l));
    }

    private void heardsNumbers() {
        checks.of("Promise 15");
        number("heard(minute, 0) behind 11", 11, 3, 99, 3, BAD, (x, minute) -> x.heard(minute, 0));
        number("heard(99, note)", -99, 3, 99, 3, BAD, (x, note) -> x.heard(99, note));
        number("heard(minute, 0) as the first", 0, 1, 99, 1, BAD, (x, minute) -> {
            x.forget();
            return x.heard(minute, 0);
        });
    }

    private void wheresNumber() {
        checks.of("Promise 18");
        number("where(k)", 0, 1, 1, 2, BAD, (x, k) -> x.where(k));
    }

    private void keepsNumber() {
        checks.of("Promise 20");
        number("keeps(what)", 0, 0, 1, 7, BAD, (x, what) -> x.keeps(what));
    }

    private void meetsNumbers() {
        checks.of("Promise 21");
        number("meet(a, 1)", 0, 26, 2, 6, BAD, (x, a) -> a == 1 ? BAD : x.meet(a, 1));
        number("meet(1, b)", 0, 26, 2, 6, BAD, (x, b) -> b == 1 ? BAD : x.meet(1, b));
        for (int l = 0; l < 3; l++) {
            checks.due("meet() of one and the same", made().meet(l, l), BAD);
        }
    }

    private void singsNumber() {
        checks.of("Promise 23");
        number("sing(note)", -99, 4, 99, 4, BAD, (x, note) -> x.sing(note));
    }

    private void bysNumbers() {
        checks.of("Promise 26");
        number("by(i, 0)", 0, 1, 2, 0, BAD, (x, i) -> x.by(i, 0));
        number("by(i, 1)", 0, 0, 2, 2, BAD, (x, i) -> x.by(i, 1));
        number("by(2, what)", 0, 0, 1, 2, BAD, (x, what) -> x.by(2, what));
    }

    private void marksNumbers() {
        checks.of("Promise 27");
        number("mark(kind, 0)", 0, 20, 5, 21, NO, (x, kind) -> x.mark(kind, 0));
        for (int k = 0; k <= 5; k++) {
            int kind = k;
            int[] ofTheFirst = {20, 21, 20, 42, 20, 21};
            int[] ofTheLast = {40, 41, 40, 82, 42, 41};
            number("mark(" + kind + ", l)", 0, ofTheFirst[kind], 2, ofTheLast[kind], NO, (x, l) -> x.mark(kind, l));
        }
        number("trace() behind mark(3, l)", 0, 1011, 2, 1011, 0, (x, l) -> {
            x.mark(3, l);
            return x.trace();
        });
    }

    private void imagesNumbers() {
        checks.of("Promise 28");
        number("keep(image)", 0, 0, 1, 0, BAD, (x, image) -> x.keep(image));
        checks.of("Promise 29");
        number("back(image)", 0, 0, 1, 1, BAD, (x, image) -> x.back(image));
    }

    private void countsNumber() {
        checks.of("Promise 30");
        number("count(what)", 0, 3, 8, 0, BAD, (x, what) -> x.count(what));
        NoteBells x = made();
        x.wet(6);
        x.year();
        Checks.type(x, "ear 12;");
        int[] wants = {3, 2, 4, 6, 1, 2, 3, 1, 7};
        for (int what = 0; what < 9; what++) {
            checks.due("count(" + what + ")", x.count(what), wants[what]);
        }
    }
}
