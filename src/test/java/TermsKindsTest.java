/** "Terms" behind "======== 4": KINDS and THE TRACE, IMAGES, and what becomes of all when a text is read anew. */
final class TermsKindsTest {
    private static final int BAD = -1, STATE = -2, NONE = -9, NO = -1000000;
    /** What a mark of each kind adds to THE TRACE: its own body, and those that it asks. */
    private static final int[] TRACED = {1, 11, 101, 1011, 10101, 100001};

    private final Checks checks = new Checks();

    public static void main(String[] args) {
        TermsKindsTest t = new TermsKindsTest();
        t.levelIsItsPitch();
        t.galleryIsUpAndEcho();
        t.sumpIsUpLessWet();
        t.deepIsUpTimes2();
        t.drownedIsUpAndItsNumber();
        t.stageIsUpAndMenThere();
        t.marksBelow0();
        t.kindsAre0To5();
        t.traceIs0AtFirst();
        t.traceOfEachBody();
        t.traceOfAllCalls();
        t.traceOfRefusedCalls();
        t.imagesAre0And1();
        t.imageThatWasNotKept();
        t.imageKeepsTheYear();
        t.imageKeepsPitches();
        t.imageKeepsWet();
        t.imageKeepsMen();
        t.imageKeepsTheFall();
        t.imageKeepsTheBook();
        t.imageKeepsTheHymn();
        t.imageKeepsNothingElse();
        t.imageOfNothing();
        t.imagesStandAlone();
        t.readAnewAsTold();
        t.readAnewAsAtFirst();
        t.readAnewImagesAreGone();
        t.readAnewTraceStays();
        t.readAnewByNoBytes();
        t.aFaultChangesNothing();
        t.checks.end();
    }

    private void due(String call, long got, long want) {
        checks.due(call, got, want);
    }

    // ---- kinds

    private void levelIsItsPitch() {
        checks.of("0 LEVEL its PITCH (1)");
        NoteBells x = Checks.shaft("level 60 9 1;level 0 9 1;wet 9;man 0;");
        due("mark(0, 0)", x.mark(0, 0), 60);
        due("mark(0, 1)", x.mark(0, 1), 0);
        x.year();
        due("mark(0, 0) a YEAR on", x.mark(0, 0), 51);
        due("trace()", x.trace(), 3);
    }

    private void galleryIsUpAndEcho() {
        checks.of("1 GALLERY up, and ECHO (10)");
        NoteBells x = Checks.shaft("level 60 9 1;level 60 9 0;wet 9;man 0;");
        due("with an ECHO", x.mark(1, 0), 61);
        due("with none", x.mark(1, 1), 60);
        x.year();
        due("a YEAR on", x.mark(1, 0), 52);
        due("trace()", x.trace(), 33);
    }

    private void sumpIsUpLessWet() {
        checks.of("2 SUMP up less WET (100)");
        NoteBells x = Checks.shaft("level 20 9 1;level 30 0 1;wet 4;man 0;");
        due("mark(2, 0)", x.mark(2, 0), 16);
        due("mark(2, 1)", x.mark(2, 1), 26);
        x.wet(9);
        due("in WET 9", x.mark(2, 1), 21);
        x.wet(0);
        due("in WET 0", x.mark(2, 1), 30);
        due("trace()", x.trace(), 404);
    }

    private void deepIsUpTimes2() {
        checks.of("3 DEEP (under GALLERY) up times 2 (1000)");
        NoteBells x = Checks.shaft("level 60 9 1;level 60 9 0;level 0 0 1;level 0 0 0;wet 9;man 0;");
        int[] wants = {122, 120, 2, 0};
        for (int l = 0; l < 4; l++) {
            due("mark(3, " + l + ")", x.mark(3, l), wants[l]);
        }
        due("trace()", x.trace(), 4044);
    }

    private void drownedIsUpAndItsNumber() {
        checks.of("4 DROWNED (under SUMP) up, and its number (10000)");
        NoteBells x = Checks.shaft("level 20 0 1;".repeat(8) + "wet 6;man 0;");
        for (int l = 0; l < 8; l++) {
            due("mark(4, " + l + ")", x.mark(4, l), 14 + l);
        }
        due("trace()", x.trace(), 80808);
    }

    private void stageIsUpAndMenThere() {
        checks.of("5 STAGE (under LEVEL) up, and how many MEN stand there (100000)");
        NoteBells x = Checks.shaft("level 20 0 1;level 30 0 1;level 40 0 1;wet 6;man 1;man 1;man 1;");
        due("nobody", x.mark(5, 0), 20);
        due("three", x.mark(5, 1), 33);
        x.climbs(1, 2);
        due("two", x.mark(5, 1), 32);
        due("one", x.mark(5, 2), 41);
        x.climbs(2, 0);
        x.climbs(0, 0);
        due("nobody any more", x.mark(5, 1), 30);
        due("two that climbed", x.mark(5, 0), 22);
        due("trace()", x.trace(), 600006);
        NoteBells nobody = Checks.shaft("level 20 0 1;");
        due("with no MEN at all", nobody.mark(5, 0), 20);
    }

    private void marksBelow0() {
        checks.of("MARK; SUMP and DROWNED below 0");
        NoteBells x = Checks.shaft("level 0 0 0;".repeat(8));
        for (int w = 0; w <= 9; w++) {
            x.wet(w);
            due("mark(2, 0) in WET " + w, x.mark(2, 0), -w);
            due("mark(4, 7) in WET " + w, x.mark(4, 7), 7 - w);
        }
        due("trace()", x.trace(), 10 * 10202);
    }

    private void kindsAre0To5() {
        checks.of("KINDS of LEVELS: what lies beyond them");
        NoteBells x = Checks.shaft("level 20 3 1;");
        int[] beyond = {-1, 6, 7, Integer.MIN_VALUE, Integer.MAX_VALUE, 256, -256, 65536, 8, 16, 32};
        for (int kind : beyond) {
            due("mark(" + kind + ", 0)", x.mark(kind, 0), NO);
        }
        due("trace()", x.trace(), 0);
        int[] wants = {20, 21, 20, 42, 20, 20};
        for (int kind = 0; kind <= 5; kind++) {
            due("mark(" + kind + ", 0)", x.mark(kind, 0), wants[kind]);
        }
    }

    private void traceIs0AtFirst() {
        checks.of("THE TRACE (0 at first");
        due("of a new object", new NoteBells().trace(), 0);
        NoteBells x = Checks.shaft("level 20 3 1;man 0;");
        x.level(0, 0);
        x.climbing();
        x.year();
        x.falls(0);
        due("of calls that are no mark()", x.trace(), 0);
    }

    private void traceOfEachBody() {
        checks.of("numbers in brackets come to THE TRACE as often as mark() asks that body; asked once");
        for (int kind = 0; kind <= 5; kind++) {
            NoteBells x = Checks.shaft("level 20 3 1;level 20 3 1;man 0;man 0;man 0;");
            x.mark(kind, 0);
            due("trace() behind kind " + kind, x.trace(), TRACED[kind]);
            x.mark(kind, 1);
            due("trace() behind kind " + kind + " twice", x.trace(), 2 * TRACED[kind]);
        }
    }

    private void traceOfAllCalls() {
        checks.of("THE TRACE (of all calls ever, together)");
        NoteBells x = Checks.shaft("level 20 3 1;");
        long sum = 0;
        for (int i = 0; i < 240; i++) {
            x.mark(i % 6, 0);
            sum += TRACED[i % 6];
            due("trace()", x.trace(), sum);
        }
        NoteBells much = Checks.shaft("level 20 3 1;");
        for (int i = 0; i < 500; i++) {
            much.mark(5, 0);
        }
        due("trace() behind 500 of STAGE", much.trace(), 50000500L);
    }

    private void traceOfRefusedCalls() {
        checks.of("Refused, and nothing changes: mark() and THE TRACE");
        NoteBells x = Checks.shaft("level 20 3 1;");
        for (int kind = -1; kind <= 6; kind++) {
            due("mark(" + kind + ", 1)", x.mark(kind, 1), NO);
            due("mark(" + kind + ", -1)", x.mark(kind, -1), NO);
        }
        due("trace()", x.trace(), 0);
        NoteBells none = new NoteBells();
        for (int kind = 0; kind <= 5; kind++) {
            due("mark(" + kind + ", 0) of no LEVELS", none.mark(kind, 0), NO);
        }
        due("trace() of no LEVELS", none.trace(), 0);
    }

    // ---- images

    private void imagesAre0And1() {
        checks.of("IMAGES 0, 1");
        NoteBells x = Checks.shaft("level 20 3 1;");
        int[] beyond = {-1, 2, 3, Integer.MIN_VALUE, Integer.MAX_VALUE, 256, -256, 65536, 32};
        for (int image : beyond) {
            due("keep(" + image + ")", x.keep(image), BAD);
            due("back(" + image + ")", x.back(image), BAD);
        }
        due("keep(0)", x.keep(0), 0);
        due("keep(1)", x.keep(1), 0);
        for (int image : beyond) {
            due("back(" + image + ") with both kept", x.back(image), BAD);
        }
    }

    private void imageThatWasNotKept() {
        checks.of("back(): STATE: none was kept");
        NoteBells x = Checks.shaft("level 20 3 1;");
        due("back(0)", x.back(0), STATE);
        due("back(1)", x.back(1), STATE);
        x.keep(0);
        due("back(1), the other was", x.back(1), STATE);
        due("back(0), this one was", x.back(0), 0);
        NoteBells y = Checks.shaft("level 20 3 1;");
        y.keep(1);
        due("back(0), the other was kept", y.back(0), STATE);
        due("back(1), this one was kept", y.back(1), 0);
    }

    private void imageKeepsTheYear() {
        checks.of("IMAGES keep NOW (YEAR");
        NoteBells x = Checks.shaft("level 20 3 1;");
        x.year();
        x.year();
        due("keep(0)", x.keep(0), 2);
        x.year();
        due("keep(1)", x.keep(1), 3);
        x.year();
        due("back(0)", x.back(0), 2);
        due("count(7)", x.count(7), 2);
        due("back(1)", x.back(1), 3);
        due("count(7) then", x.count(7), 3);
        due("year()", x.year(), 4);
    }

    private void imageKeepsPitches() {
        checks.of("IMAGES keep NOW (PITCHES");
        NoteBells x = Checks.shaft("level 20 3 1;".repeat(8));
        x.year();
        x.keep(0);
        x.year();
        due("level(7, 0) a YEAR on", x.level(7, 0), 14);
        x.back(0);
        for (int l = 0; l < 8; l++) {
            due("level(" + l + ", 0)", x.level(l, 0), 17);
            due("level(" + l + ", 1)", x.level(l, 1), 3);
        }
    }

    private void imageKeepsWet() {
        checks.of("IMAGES keep NOW (WET");
        NoteBells x = Checks.shaft("level 20 3 1;level 20 0 0;wet 4;");
        x.wet(5);
        x.keep(1);
        x.wet(9);
        x.back(1);
        due("count(3)", x.count(3), 5);
        due("level(1, 3)", x.level(1, 3), 15);
        due("wet(0)", x.wet(0), 5);
    }

    private void imageKeepsMen() {
        checks.of("IMAGES keep NOW (where MEN stand");
        NoteBells x = Checks.shaft("level 20 3 1;level 20 0 0;level 20 0 0;man 0;man 1;man 2;");
        x.climbs(0, 2);
        x.climbs(1, 0);
        x.climbs(2, 1);
        x.keep(0);
        x.climbs(0, 1);
        x.climbs(1, 2);
        x.climbs(2, 0);
        x.back(0);
        due("man(0)", x.man(0), 2);
        due("man(1)", x.man(1), 0);
        due("man(2)", x.man(2), 1);
    }

    private void imageKeepsTheFall() {
        checks.of("IMAGES keep NOW (where the rope FELL");
        NoteBells x = Checks.shaft("level 20 0 1;".repeat(4) + "man 2;");
        x.keep(0);
        x.falls(2);
        x.keep(1);
        x.falls(0);
        due("back(1)", x.back(1), 0);
        due("plucks(0), it FELL there", x.plucks(0), NO);
        due("falls(3), it FELL higher", x.falls(3), STATE);
        due("falls(1), it did not fall there", x.falls(1), 3);
        x.back(1);
        due("mends()", x.mends(), 2);
        x.falls(0);
        x.back(0);
        due("plucks(0), it was whole", x.plucks(0), 20);
        due("mends(), it was whole", x.mends(), STATE);
        x.back(1);
        due("plucks(0), it FELL there again", x.plucks(0), NO);
    }

    private void imageKeepsTheBook() {
        checks.of("IMAGES keep NOW (THE BOOK");
        NoteBells x = Checks.shaft("level 20 0 1;level 30 0 1;level 40 0 1;");
        Checks.hear(x, 5, 20, 6, 30);
        x.keep(0);
        x.forget();
        Checks.hear(x, 50, 40, 50, 40, 50, 30);
        x.keep(1);
        x.back(0);
        due("count(5)", x.count(5), 2);
        due("tracks()", x.tracks(), 1);
        due("where(0)", x.where(0), 1);
        due("where(1)", x.where(1), 2);
        due("where(2)", x.where(2), BAD);
        due("an earlier MINUTE", x.heard(5, 20), BAD);
        due("the last MINUTE of it", x.heard(6, 20), 3);
        due("back(1)", x.back(1), 0);
        due("count(5) of the other", x.count(5), 3);
        due("tracks() of the other", x.tracks(), 0);
        due("men() of the other", x.men(), 2);
        due("heard(49, 20)", x.heard(49, 20), BAD);
        // Six notes, each of its own, and six others.
        NoteBells six = Checks.shaft("level 60 0 0;level 50 0 0;level 40 0 0;level 30 0 0;level 20 0 0;level 10 0 0;");
        Checks.hear(six, 10, 60, 20, 50, 30, 40, 40, 30, 50, 20, 60, 10);
        six.keep(0);
        six.forget();
        Checks.hear(six, 0, 10, 1, 20, 2, 30, 3, 40, 4, 50, 5, 60);
        six.keep(1);
        due("back(0) of six", six.back(0), 0);
        for (int k = 0; k < 6; k++) {
            due("where(" + k + ") of six", six.where(k), 1 << k);
        }
        due("back(1) of six", six.back(1), 0);
        for (int k = 0; k < 6; k++) {
            due("where(" + k + ") of the other six", six.where(k), 32 >> k);
        }
        six.forget();
        Checks.hear(six, 0, 10, 1, 20, 2, 30, 3, 40, 4, 50, 4, 60);
        due("tracks() with no minutes between", six.tracks(), 0);
        six.back(1);
        due("tracks() with the MINUTES of the IMAGE", six.tracks(), 1);
    }

    private void imageKeepsTheHymn() {
        checks.of("IMAGES keep NOW (the HYMN)");
        NoteBells x = Checks.shaft("level 20 0 1;level 30 0 1;level 40 0 1;man 0;");
        Checks.sing(x, 40, 30);
        x.keep(0);
        x.hush();
        Checks.sing(x, 20, 20, 20, 20, 20, 20, 20, 20);
        x.keep(1);
        x.back(0);
        due("count(6)", x.count(6), 2);
        due("climbing()", x.climbing(), 3);
        due("by(0, 1)", x.by(0, 1), 2);
        due("by(1, 1)", x.by(1, 1), 1);
        due("by(2, 1)", x.by(2, 1), BAD);
        due("sing(20)", x.sing(20), 3);
        x.back(1);
        due("count(6) of the other", x.count(6), 8);
        due("climbing() of the other", x.climbing(), 0);
        due("by(7, 1) of the other", x.by(7, 1), 0);
        x.hush();
        Checks.sing(x, 40, 40, 40, 40, 40, 40, 40, 40);
        x.keep(0);
        x.back(1);
        due("climbing() of eight", x.climbing(), 0);
        x.back(0);
        due("climbing() of other eight", x.climbing(), 2);
        due("by(7, 1) of other eight", x.by(7, 1), 2);
    }

    private void imageKeepsNothingElse() {
        checks.of("IMAGES keep nothing else");
        NoteBells x = Checks.shaft("level 20 3 1;level 30 2 0;ear 3;pace 2;man 0;");
        Checks.type(x, "ear 1;");
        x.mark(0, 0);
        x.keep(0);
        x.clear();
        Checks.type(x, "wet 22");
        Checks.type(x, "22;;;");
        x.mark(3, 0);
        x.back(0);
        due("THE TEXT stays", x.count(8), 11);
        due("THE TRACE stays", x.trace(), 1012);
        due("EAR", x.count(2), 3);
        due("PACE", x.count(4), 2);
        due("LEVELS", x.count(0), 2);
        due("MEN", x.count(1), 1);
        due("WEAR", x.level(1, 1), 2);
        due("ECHO", x.level(0, 2), 1);
        due("THE TEXT as it is", x.shaft(), -14);
        due("THE TEXT had", x.clear(), 11);
        NoteBells y = Checks.shaft("level 20 3 1;");
        y.keep(0);
        Checks.type(y, "ear 7;");
        y.back(0);
        due("THE TEXT stays to be read", y.shaft(), 1);
        due("EAR as read", y.count(2), 7);
    }

    private void imageOfNothing() {
        checks.of("IMAGES of no LEVELS, nobody, no notes");
        NoteBells x = new NoteBells();
        due("keep(0)", x.keep(0), 0);
        x.year();
        x.wet(3);
        Checks.hear(x, 1, 1);
        Checks.sing(x, 1, 2);
        due("back(0)", x.back(0), 0);
        due("count(3)", x.count(3), 0);
        due("count(5)", x.count(5), 0);
        due("count(6)", x.count(6), 0);
        due("count(7)", x.count(7), 0);
        due("tracks()", x.tracks(), 1);
        due("climbing()", x.climbing(), 0);
        due("heard(0, 0)", x.heard(0, 0), 1);
    }

    private void imagesStandAlone() {
        checks.of("All of that becomes as an IMAGE has it");
        NoteBells x = Checks.shaft("level 20 3 1;level 60 1 0;man 0;");
        Checks.hear(x, 5, 20);
        Checks.sing(x, 20);
        x.keep(0);
        x.year();
        x.climbs(0, 1);
        Checks.hear(x, 6, 60);
        Checks.sing(x, 60);
        due("back(0)", x.back(0), 0);
        x.year();
        x.wet(7);
        x.climbs(0, 1);
        x.falls(0);
        x.forget();
        x.hush();
        due("back(0) again", x.back(0), 0);
        due("level(0, 0)", x.level(0, 0), 20);
        due("count(3)", x.count(3), 0);
        due("man(0)", x.man(0), 0);
        due("plucks(0)", x.plucks(0), 20);
        due("count(5)", x.count(5), 1);
        due("where(0)", x.where(0), 1);
        due("count(6)", x.count(6), 1);
        x.year();
        due("keep(0) over it", x.keep(0), 1);
        x.year();
        due("back(0) of the later", x.back(0), 1);
        due("level(0, 0) of the later", x.level(0, 0), 17);
    }

    // ---- read anew

    /** Everything that can be changed, changed; the text is typed, not yet read. */
    private static NoteBells changed(String text) {
        NoteBells x = Checks.shaft("level 20 3 1;level 30 2 0;level 40 1 1;ear 3;wet 2;pace 2;man 0;man 1;");
        x.year();
        x.year();
        x.wet(8);
        x.climbs(0, 2);
        x.falls(1);
        Checks.hear(x, 50, 12, 51, 18);
        Checks.sing(x, 12, 18, 26);
        x.mark(4, 2);
        x.keep(0);
        x.keep(1);
        Checks.type(x, text);
        return x;
    }

    private void readAnewAsTold() {
        checks.of("(Read anew: YEAR 0, all as told");
        NoteBells x = changed("level 50 4 0;level 10 5 1;man 1;ear 1;wet 3;pace 4;");
        due("shaft()", x.shaft(), 6);
        int[] counts = {2, 1, 1, 3, 4, 0, 0, 0, 0};
        for (int what = 0; what < counts.length; what++) {
            due("count(" + what + ")", x.count(what), counts[what]);
        }
        int[][] levels = {{50, 4, 0, 49}, {10, 5, 1, 7}};
        for (int l = 0; l < 2; l++) {
            for (int what = 0; what < 4; what++) {
                due("level(" + l + ", " + what + ")", x.level(l, what), levels[l][what]);
            }
        }
        due("level(2, 0)", x.level(2, 0), NO);
        due("man(0)", x.man(0), 1);
        due("man(1)", x.man(1), BAD);
        due("plucks(0)", x.plucks(0), 7);
        due("mends()", x.mends(), STATE);
    }

    private void readAnewAsAtFirst() {
        checks.of("(Read anew: what is not told as at first, no BOOK, no HYMN)");
        NoteBells x = changed("level 50 4 0;");
        due("shaft()", x.shaft(), 1);
        int[] counts = {1, 0, 0, 0, 1, 0, 0, 0, 0};
        for (int what = 0; what < counts.length; what++) {
            due("count(" + what + ")", x.count(what), counts[what]);
        }
        due("where(0)", x.where(0), BAD);
        due("tracks()", x.tracks(), 1);
        due("men()", x.men(), 0);
        due("climbing()", x.climbing(), 0);
        due("by(0, 0)", x.by(0, 0), BAD);
        due("mends()", x.mends(), STATE);
        due("heard(0, 50)", x.heard(0, 50), 1);
        due("sing(50)", x.sing(50), 1);
        due("climbing() with nobody", x.climbing(), NONE);
        due("year()", x.year(), 1);
        due("falls(0)", x.falls(0), 1);
    }

    private void readAnewImagesAreGone() {
        checks.of("(Read anew: IMAGES are gone");
        NoteBells x = changed("level 50 4 0;");
        x.shaft();
        due("back(0)", x.back(0), STATE);
        due("back(1)", x.back(1), STATE);
        due("level(0, 0)", x.level(0, 0), 50);
        due("keep(1)", x.keep(1), 0);
        due("back(0) then", x.back(0), STATE);
        due("back(1) then", x.back(1), 0);
        x.shaft();
        due("back(1) behind a text of no bytes", x.back(1), STATE);
    }

    private void readAnewTraceStays() {
        checks.of("(Read anew: THE TRACE stays.)");
        NoteBells x = changed("level 50 4 0;");
        due("trace()", x.trace(), 10101);
        x.shaft();
        due("trace() behind shaft()", x.trace(), 10101);
        x.mark(0, 0);
        due("trace() behind one more", x.trace(), 10102);
    }

    private void readAnewByNoBytes() {
        checks.of("(Read anew by no bytes: what is not told as at first)");
        NoteBells x = changed("");
        due("shaft()", x.shaft(), 0);
        int[] counts = {0, 0, 0, 0, 1, 0, 0, 0, 0};
        for (int what = 0; what < counts.length; what++) {
            due("count(" + what + ")", x.count(what), counts[what]);
        }
        due("level(0, 0)", x.level(0, 0), NO);
        due("man(0)", x.man(0), BAD);
        due("back(0)", x.back(0), STATE);
        due("mends()", x.mends(), STATE);
        due("trace()", x.trace(), 10101);
    }

    private void aFaultChangesNothing() {
        checks.of("-10 less FAULT: nothing changes (THE TEXT, too, stays)");
        String[] texts = {"level 50 4 0;man 0;ear 9;wet 9;pace 4;!", "level 1 1 1;".repeat(8) + "level", "x", "ear 1;ear 2;", "level 5"};
        int[] places = {38, 96, 0, 6, 7};
        for (int i = 0; i < texts.length; i++) {
            NoteBells x = changed(texts[i]);
            due("shaft() of '" + texts[i] + "'", x.shaft(), -10 - places[i]);
            int[] counts = {3, 2, 3, 8, 2, 2, 3, 2, texts[i].length()};
            for (int what = 0; what < counts.length; what++) {
                due("count(" + what + ")", x.count(what), counts[what]);
            }
            due("shaft() again", x.shaft(), -10 - places[i]);
            due("level(0, 0)", x.level(0, 0), 14);
            due("level(2, 1)", x.level(2, 1), 1);
            due("man(0)", x.man(0), 2);
            due("where(0)", x.where(0), 1);
            due("climbing()", x.climbing(), 2);
            due("by(0, 0)", x.by(0, 0), 1);
            due("mends()", x.mends(), 2);
            due("back(0)", x.back(0), 2);
            due("mends() behind back(0)", x.mends(), 2);
            due("back(1)", x.back(1), 2);
            due("trace()", x.trace(), 10101);
        }
    }
}
