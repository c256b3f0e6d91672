/** Each promise of the document by its number: ordinary inputs, edges, wrong inputs. */
final class PromisesTest {
    private static final int BAD = -1, STATE = -2, FULL = -3, NONE = -9, NO = -1000000;
    private static final int[] OFF = {Integer.MIN_VALUE, -1000001, -1, 8, 9, 10, 1000, Integer.MAX_VALUE};

    private final Checks checks = new Checks();

    public static void main(String[] args) {
        PromisesTest t = new PromisesTest();
        t.promise1New();
        t.promise2Type();
        t.promise3Clear();
        t.promise4Items();
        t.promise4Faults();
        t.promise4Anew();
        t.promise5Level();
        t.promise6Man();
        t.promise7Wet();
        t.promise8Taken();
        t.promise9Comes();
        t.promise10Climbs();
        t.promise11Plucks();
        t.promise12Falls();
        t.promise13Mends();
        t.promise14Year();
        t.promise15Heard();
        t.promise16Forget();
        t.promise17Tracks();
        t.promise18Where();
        t.promise19Men();
        t.promise19Echoes();
        t.promise20Keeps();
        t.promise21Meet();
        t.promise22First();
        t.promise23Sing();
        t.promise24Hush();
        t.promise25Climbing();
        t.promise26By();
        t.promise27Mark();
        t.promise28Keep();
        t.promise29Back();
        t.promise30Count();
        t.promise31Trace();
        t.checks.end();
    }

    private void due(String call, long got, long want) {
        checks.due(call, got, want);
    }

    private void counts(String when, NoteBells x, int... wants) {
        for (int what = 0; what < wants.length; what++) {
            due(when + ": count(" + what + ")", x.count(what), wants[what]);
        }
    }

    private static void hear(NoteBells x, int... minutesAndNotes) {
        for (int i = 0; i + 1 < minutesAndNotes.length; i += 2) {
            x.heard(minutesAndNotes[i], minutesAndNotes[i + 1]);
        }
    }

    private static void sing(NoteBells x, int... notes) {
        for (int note : notes) {
            x.sing(note);
        }
    }

    private void promise1New() {
        checks.of("Promise 1: NoteBells()");
        NoteBells x = new NoteBells();
        counts("new", x, 0, 0, 0, 0, 1, 0, 0, 0, 0);
        due("trace", x.trace(), 0);
        due("man", x.man(0), BAD);
        due("level", x.level(0, 0), NO);
        due("tracks", x.tracks(), 1);
        due("men", x.men(), 0);
        due("keeps 0", x.keeps(0), 0);
        due("keeps 1", x.keeps(1), 0);
        due("first", x.first(), NONE);
        due("climbing", x.climbing(), 0);
        due("back", x.back(0), STATE);
        due("mends", x.mends(), STATE);
        due("comes", x.comes(0), 0);
    }

    private void promise2Type() {
        checks.of("Promise 2: type()");
        NoteBells x = new NoteBells();
        due("n 0", x.type(59, 0), BAD);
        due("n 9", x.type(59, 9), BAD);
        due("n -1", x.type(59, -1), BAD);
        due("n least", x.type(59, Integer.MIN_VALUE), BAD);
        due("n most", x.type(59, Integer.MAX_VALUE), BAD);
        due("nothing typed", x.count(8), 0);
        due("only the lowest", x.type(0x7171717165617220L, 4), 4);
        due("the highest first", x.type(0x343BL, 2), 6);
        due("read", x.shaft(), 1);
        due("ear", x.count(2), 4);
        due("a high byte", x.type(-1L, 8), 8);
        due("it is no token", x.shaft(), -10);
        for (int i = 2; i <= 24; i++) {
            due("eight more", x.type(0x2020202020202020L, 8), 8 * i);
        }
        due("seven more", x.type(0, 7), 199);
        due("two too many", x.type(0x2020, 2), FULL);
        due("bad ahead of full", x.type(0x2020, 9), BAD);
        due("one more", x.type(59, 1), 200);
        due("full", x.type(59, 1), FULL);
        due("stays", x.count(8), 200);
    }

    private void promise3Clear() {
        checks.of("Promise 3: clear()");
        NoteBells x = Checks.shaft("level 7 0 0;ear 3;");
        due("empty", x.clear(), 0);
        Checks.type(x, "level 9");
        due("had", x.clear(), 7);
        due("empty again", x.clear(), 0);
        due("bytes", x.count(8), 0);
        due("the rest stays", x.level(0, 0), 7);
        Checks.type(x, "ear 5;");
        due("anew", x.shaft(), 1);
    }

    private void items(String text, int want) {
        NoteBells x = new NoteBells();
        Checks.type(x, text);
        due("'" + text + "'", x.shaft(), want);
        due("text behind '" + text + "'", x.count(8), want < 0 ? text.length() : 0);
    }

    private void promise4Items() {
        checks.of("Promise 4: shaft()");
        items("", 0);
        items("   ", 0);
        items(" ".repeat(200), 0);
        items("level 0 0 0;", 1);
        items("level60 9 1;", 1);
        items("  level  60  9  1  ;  ", 1);
        items("level0 0 0;man0;ear0;wet0;pace1;", 5);
        items("ear9;wet9;pace4;", 3);
        items("level 1 1 1;level 2 2 0;level 3 3 1;level 4 4 0;level 5 5 1;level 6 6 0;level 7 7 1;level 8 8 0;man 7;man 0;man 7;", 11);
        items("level 1 1 1;".repeat(8) + "man 7;man 7;man 7;ear 1;wet 1;pace 1;", 14);
        items("ear1;level 1 1 1;pace 2;man 0;wet 1;", 5);
    }

    private void fault(String text, int place) {
        items(text, -10 - place);
    }

    private void promise4Faults() {
        checks.of("Promise 4: shaft()");
        fault("level", 5);
        fault("level 1 1 1", 11);
        fault("level 1 1 1   ", 14);
        fault("ear", 3);
        fault("leve", 0);
        fault("levels 1 1 1;", 0);
        fault("levelman 1;", 0);
        fault("  Level 1 1 1;", 2);
        String[] unlike = {"bevel", "lavel", "leeel", "levil", "leven", "fan", "men", "mat", "bar", "eer", "eat", "pet", "wit", "web", "race", "pice", "pane", "pack"};
        for (String word : unlike) {
            fault("ear 1; " + word + " 1;", 7);
        }
        fault(";", 0);
        fault("5", 0);
        fault("ear 1;;", 6);
        fault("ear 1 2;", 6);
        fault("ear ;", 4);
        fault("ear wet;", 4);
        fault("ear 1 wet 2;", 6);
        fault("ear 10;", 4);
        fault("ear -1;", 4);
        fault("ear 100;", 4);
        fault("ear 4294967296;", 4);
        fault("ear 18446744073709551616;", 4);
        fault("ear 00;", 4);
        fault("ear 01;", 4);
        fault("ear 1x;", 5);
        fault("ear\t1;", 3);
        fault("ear 1;\u00e9", 6);
        fault("ear 1;\0", 6);
        fault("wet 10;", 4);
        fault("pace 0;", 5);
        fault("pace 5;", 5);
        fault("level 61 0 0;", 6);
        fault("level 60 10 0;", 9);
        fault("level 60 9 2;", 11);
        fault("level 60 9;", 10);
        fault("level 60 9 1 1;", 13);
        fault("level 099 9 1;", 6);
        fault("man 0;", 4);
        fault("man 0;level 1 1 1;", 4);
        fault("level 1 1 1;man 1;", 16);
        fault("level 1 1 1;man 0;man 0;man 0;man 0;", 30);
        fault("level 1 1 1;".repeat(9), 96);
        fault("ear 1;ear 1;", 6);
        fault("wet 1;wet 1;", 6);
        fault("pace 1;ear 2;pace 1;", 13);
        fault(";".repeat(200), 0);
        fault(";".repeat(199) + "5", 0);
        fault("x".repeat(200), 0);
        fault("5".repeat(200), 0);
        fault(" ".repeat(199) + "5", 199);
        fault(" ".repeat(197) + "ear", 200);
        fault(" ".repeat(195) + "ear 1", 200);
        // What was typed ahead of clear() is not read on.
        NoteBells x = new NoteBells();
        Checks.type(x, "ear 12;");
        x.clear();
        Checks.type(x, "ear 1");
        due("the end of a shorter text", x.shaft(), -15);
        x.clear();
        Checks.type(x, "ear ");
        due("the end of a yet shorter text", x.shaft(), -14);
    }

    private void promise4Anew() {
        checks.of("Promise 4: shaft()");
        NoteBells x = Checks.shaft("level 20 1 1;level 10 2 0;man 1;ear 2;wet 4;pace 3;");
        x.year();
        x.climbs(0, 0);
        x.falls(0);
        x.heard(3, 4);
        x.sing(5);
        x.keep(0);
        x.mark(1, 0);
        Checks.type(x, "level 1 0 0;man 1");
        due("a fault", x.shaft(), -26);
        counts("behind a fault", x, 2, 1, 2, 4, 3, 1, 1, 1, 17);
        due("man stays", x.man(0), 0);
        due("pitch stays", x.level(0, 0), 19);
        due("rope stays", x.mends(), 2);
        x.falls(1);
        due("image stays", x.back(0), 1);
        x.clear();
        Checks.type(x, "level 30 0 1;level 40 0 0;man 1;");
        due("anew", x.shaft(), 3);
        counts("anew", x, 2, 1, 0, 0, 1, 0, 0, 0, 0);
        due("pitch told", x.level(1, 0), 40);
        due("man told", x.man(0), 1);
        due("rope is whole", x.mends(), STATE);
        due("images are gone", x.back(0), STATE);
        due("trace stays", x.trace(), 11);
        Checks.type(x, "ear 1;wet 2;pace 3;ear 1;");
        due("a fault behind settings", x.shaft(), -29);
        x.clear();
        for (int i = 0; i < 2; i++) {
            Checks.type(x, "ear 4;wet 5;pace 2;");
            due("once each a text", x.shaft(), 3);
            counts("once each a text", x, 0, 0, 4, 5, 2);
        }
        due("none told", x.shaft(), 0);
        counts("none told", x, 0, 0, 0, 0, 1, 0, 0, 0, 0);
    }

    private void promise5Level() {
        checks.of("Promise 5: level()");
        NoteBells x = Checks.shaft("level 60 9 1;level 0 0 0;level 5 3 1;wet 3;");
        int[][] wants = {{60, 9, 1, 59}, {0, 0, 0, -3}, {5, 3, 1, 1}};
        for (int l = 0; l < 3; l++) {
            for (int what = 0; what < 4; what++) {
                due("level(" + l + ", " + what + ")", x.level(l, what), wants[l][what]);
            }
        }
        due("what 4", x.level(0, 4), NO);
        due("what -1", x.level(0, -1), NO);
        due("level 3", x.level(3, 0), NO);
        for (int off : OFF) {
            due("level off", x.level(off, 0), NO);
            due("what off", x.level(0, off), NO);
        }
        x.wet(9);
        due("wetter", x.level(2, 3), 5 - 13);
        NoteBells deep = Checks.shaft("level 0 0 0;".repeat(8) + "wet 9;");
        due("deepest", deep.level(7, 3), -36);
        due("cut", deep.level(0, 3), -4);
    }

    private void promise6Man() {
        checks.of("Promise 6: man()");
        NoteBells x = Checks.shaft("level 1 0 0;level 2 0 0;man 1;man 0;");
        due("man 0", x.man(0), 1);
        due("man 1", x.man(1), 0);
        due("man 2", x.man(2), BAD);
        for (int off : OFF) {
            due("man off", x.man(off), BAD);
        }
    }

    private void promise7Wet() {
        checks.of("Promise 7: wet()");
        NoteBells x = new NoteBells();
        due("first", x.wet(9), 0);
        due("then", x.wet(0), 9);
        due("same", x.wet(0), 0);
        due("ten", x.wet(10), BAD);
        due("below", x.wet(-1), BAD);
        due("stays", x.count(3), 0);
        due("five", x.wet(5), 0);
        due("is five", x.count(3), 5);
    }

    private void promise8Taken() {
        checks.of("Promise 8: taken()");
        NoteBells x = Checks.shaft("level 10 0 0;level 12 0 0;level 14 0 0;level 30 0 0;ear 2;");
        int[] wants = {3, 7, 6, 8};
        for (int l = 0; l < 4; l++) {
            due("taken(" + l + ")", x.taken(l), wants[l]);
        }
        x.wet(2);
        due("wet", x.taken(0), 7);
        x.falls(0);
        due("silence is not asked", x.taken(1), 7);
        due("level 4", x.taken(4), BAD);
        for (int off : OFF) {
            due("off", x.taken(off), BAD);
        }
    }

    private void promise9Comes() {
        checks.of("Promise 9: comes()");
        NoteBells x = Checks.shaft("level 0 0 0;level 12 0 0;level 14 0 0;ear 2;");
        int[] notes = {-3, -2, 2, 3, 9, 10, 12, 14, 15, 16, 17};
        int[] wants = {0, 1, 1, 0, 0, 2, 6, 6, 4, 4, 0};
        for (int i = 0; i < notes.length; i++) {
            due("comes(" + notes[i] + ")", x.comes(notes[i]), wants[i]);
        }
        x.wet(9);
        due("wet", x.comes(-6), 1);
        x.falls(0);
        due("silence is not asked", x.comes(-6), 1);
        due("lowest", x.comes(-99), 0);
        due("highest", x.comes(99), 0);
        due("too low", x.comes(-100), BAD);
        due("too high", x.comes(100), BAD);
        due("least", x.comes(Integer.MIN_VALUE), BAD);
    }

    private void promise10Climbs() {
        checks.of("Promise 10: climbs()");
        NoteBells x = Checks.shaft("level 1 0 0;level 2 0 0;level 3 0 0;man 0;man 2;");
        due("down", x.climbs(0, 2), 2);
        due("there", x.man(0), 2);
        due("the other stays", x.man(1), 2);
        due("up", x.climbs(1, 1), 1);
        due("is there", x.climbs(1, 1), STATE);
        due("no man", x.climbs(2, 1), BAD);
        due("no level", x.climbs(0, 3), BAD);
        for (int off : OFF) {
            due("man off", x.climbs(off, 1), BAD);
            due("level off", x.climbs(0, off), BAD);
        }
        due("stays", x.man(0), 2);
    }

    private void promise11Plucks() {
        checks.of("Promise 11: plucks()");
        NoteBells x = Checks.shaft("level 10 0 0;level 0 0 0;level 30 0 0;man 0;man 1;man 2;wet 9;");
        due("highest", x.plucks(0), 6);
        due("below 0", x.plucks(1), -9);
        due("lowest", x.plucks(2), 17);
        x.falls(1);
        due("above the fall", x.plucks(0), 6);
        due("at the fall", x.plucks(1), NO);
        due("below the fall", x.plucks(2), NO);
        x.climbs(2, 0);
        due("climbed up", x.plucks(2), 6);
        x.mends();
        due("mended", x.plucks(1), -9);
        due("no man", x.plucks(3), NO);
        for (int off : OFF) {
            due("off", x.plucks(off), NO);
        }
    }

    private void promise12Falls() {
        checks.of("Promise 12: falls()");
        NoteBells x = Checks.shaft("level 1 0 0;".repeat(5));
        due("none there", x.falls(5), BAD);
        due("lowest", x.falls(4), 1);
        due("there already", x.falls(4), STATE);
        due("higher", x.falls(2), 3);
        due("higher already", x.falls(3), STATE);
        due("there", x.falls(2), STATE);
        due("highest", x.falls(0), 5);
        due("bad ahead of state", x.falls(5), BAD);
        for (int off : OFF) {
            due("off", x.falls(off), BAD);
        }
        due("nobody's", new NoteBells().falls(0), BAD);
    }

    private void promise13Mends() {
        checks.of("Promise 13: mends()");
        NoteBells x = Checks.shaft("level 1 0 0;".repeat(8));
        due("whole", x.mends(), STATE);
        x.falls(6);
        due("two", x.mends(), 2);
        due("whole again", x.mends(), STATE);
        x.falls(7);
        x.falls(3);
        due("five", x.mends(), 5);
        due("can fall lower then", x.falls(7), 1);
    }

    private void promise14Year() {
        checks.of("Promise 14: year()");
        NoteBells x = Checks.shaft("level 10 3 0;level 60 9 0;level 5 0 0;");
        due("one", x.year(), 1);
        due("worn", x.level(0, 0), 7);
        due("worn 9", x.level(1, 0), 51);
        due("not worn", x.level(2, 0), 5);
        due("wear stays", x.level(0, 1), 3);
        x.year();
        due("three", x.year(), 3);
        due("one left", x.level(0, 0), 1);
        due("four", x.year(), 4);
        due("0 at least", x.level(0, 0), 0);
        NoteBells all = Checks.shaft("level 9 1 0;".repeat(8));
        due("of eight LEVELS", all.year(), 1);
        due("the lowest is worn, too", all.level(7, 0), 8);
        // YEAR 999, which no object comes to within its 512 calls, is asked in TermsSoundTest.
        NoteBells y = Checks.shaft("");
        for (int i = 1; i <= 500; i++) {
            due("year", y.year(), i);
        }
        due("count", y.count(7), 500);
    }

    private void promise15Heard() {
        checks.of("Promise 15: heard()");
        NoteBells x = new NoteBells();
        int[][] bad = {{-1, 0}, {100, 0}, {0, 100}, {0, -100}, {Integer.MIN_VALUE, 0}, {0, Integer.MAX_VALUE}};
        for (int[] b : bad) {
            due("bad", x.heard(b[0], b[1]), BAD);
        }
        due("none heard", x.count(5), 0);
        due("one", x.heard(5, -99), 1);
        due("earlier", x.heard(4, 0), BAD);
        due("the same minute", x.heard(5, 99), 2);
        due("last minute", x.heard(99, 0), 3);
        due("earlier again", x.heard(98, 0), BAD);
        for (int i = 4; i <= 6; i++) {
            due("more", x.heard(99, i), i);
        }
        due("full", x.heard(99, 0), FULL);
        due("bad ahead of full", x.heard(98, 0), BAD);
        due("bad note ahead of full", x.heard(99, 100), BAD);
        due("six", x.count(5), 6);
        x.forget();
        due("early again", x.heard(0, 0), 1);
    }

    private void promise16Forget() {
        checks.of("Promise 16: forget()");
        NoteBells x = Checks.shaft("level 10 0 0;");
        due("none", x.forget(), 0);
        hear(x, 0, 10, 1, 50);
        due("two", x.forget(), 2);
        due("empty", x.count(5), 0);
        due("tracks", x.tracks(), 1);
        due("again", x.forget(), 0);
    }

    private void promise17Tracks() {
        checks.of("Promise 17: tracks()");
        NoteBells x = Checks.shaft("level 10 0 0;".repeat(8) + "pace 2;");
        due("no notes", x.tracks(), 1);
        hear(x, 0, 10);
        due("one", x.tracks(), 8);
        hear(x, 0, 10);
        due("the same minute", x.tracks(), 8);
        hear(x, 1, 10);
        due("two levels at most", x.tracks(), 8 + 14 + 12);
        x.falls(0);
        due("silence is not asked", x.tracks(), 34);
        x.wet(1);
        due("wet", x.tracks(), 1);
        hear(x, 2, 11);
        due("none", x.tracks(), 0);
        NoteBells free = Checks.shaft("level 10 0 0;".repeat(8) + "pace 4;");
        hear(free, 0, 10, 2, 10, 4, 10, 6, 10, 8, 10, 10, 10);
        due("most", free.tracks(), 262144);
        NoteBells nowhere = new NoteBells();
        nowhere.heard(0, 0);
        due("no levels", nowhere.tracks(), 0);
    }

    private void promise18Where() {
        checks.of("Promise 18: where()");
        NoteBells x = Checks.shaft("level 10 0 0;level 20 0 0;level 10 0 0;level 30 0 0;level 10 0 0;level 20 0 0;");
        due("no notes", x.where(0), BAD);
        hear(x, 0, 10, 1, 20);
        due("by the first", x.where(0), 0b010101);
        due("by the second", x.where(1), 0b100010);
        hear(x, 3, 30);
        due("by the third", x.where(2), 0b001000);
        due("the first, looked back on", x.where(0), 0b010101);
        hear(x, 3, 30, 3, 30);
        hear(x, 4, 10);
        due("the last", x.where(5), 0b010100);
        due("behind the last", x.where(6), BAD);
        for (int off : OFF) {
            due("off", x.where(off), BAD);
        }
        x.forget();
        hear(x, 0, 10, 0, 20);
        due("no tracks", x.where(0), 0);
        due("no tracks, second", x.where(1), 0);
        x.forget();
        hear(x, 0, 10, 1, 20, 1, 20, 2, 30);
        due("far ones drop out", x.where(0), 0);
        x.forget();
        hear(x, 0, 10, 1, 20, 3, 30, 4, 10, 5, 20);
        due("forward and back", x.where(3), 0b010100);
        due("forward and back, end", x.where(4), 0b100010);
    }

    private void promise19Men() {
        checks.of("Promise 19: men()");
        NoteBells x = Checks.shaft("level 60 0 0;level 50 0 0;level 40 0 0;level 30 0 0;level 20 0 0;man 0;");
        due("no notes", x.men(), 0);
        hear(x, 0, 60);
        due("one", x.men(), 1);
        hear(x, 1, 50);
        due("one can climb", x.men(), 1);
        hear(x, 1, 30);
        due("two", x.men(), 2);
        hear(x, 1, 40);
        due("three", x.men(), 3);
        x.falls(0);
        due("silence is not asked", x.men(), 3);
        hear(x, 1, 60);
        due("three are too few", x.men(), NONE);
        x.forget();
        hear(x, 0, 60, 1, 61);
        due("from nowhere", x.men(), NONE);
        x.forget();
        hear(x, 0, 60, 0, 20, 4, 20, 4, 60, 8, 60, 8, 20);
        due("two by turns", x.men(), 2);
        NoteBells quick = Checks.shaft("level 60 0 0;level 50 0 0;level 40 0 0;level 30 0 0;level 20 0 0;pace 4;");
        hear(quick, 0, 60, 1, 20, 2, 60);
        due("by pace", quick.men(), 1);
        // The second man must go to meet the first, though the first could go to meet him.
        NoteBells both = Checks.shaft("level 60 0 0;level 53 0 0;level 46 0 0;level 39 0 0;level 32 0 0;level 25 0 0;level 18 0 0;level 11 0 0;");
        hear(both, 0, 39, 0, 11, 2, 25, 2, 53);
        due("the second climbs", both.men(), 2);
        NoteBells nowhere = new NoteBells();
        nowhere.heard(0, 0);
        due("no levels", nowhere.men(), NONE);
    }

    private void echoes(String shaft, int want, int... minutesAndNotes) {
        NoteBells x = Checks.shaft(shaft);
        hear(x, minutesAndNotes);
        StringBuilder b = new StringBuilder("echoes in " + shaft + ":");
        for (int n : minutesAndNotes) {
            b.append(' ').append(n);
        }
        due(b.toString(), x.men(), want);
    }

    private void promise19Echoes() {
        checks.of("Promise 19: men()");
        String far = "level 60 0 1;level 50 0 0;level 40 0 0;level 30 0 0;level 20 0 0;level 10 0 1;";
        echoes(far, 1, 0, 60, 2, 60, 2, 40);
        echoes(far, 2, 0, 60, 3, 60, 3, 40);
        echoes(far, 2, 0, 60, 1, 60, 1, 40);
        echoes(far, 2, 0, 50, 2, 50, 2, 40);
        echoes(far, 2, 0, 60, 2, 50, 2, 40);
        // An echo is no source of another: 60 at minute 4 needs a man who plucked at minute 2 or stands there.
        echoes(far, 1, 0, 60, 2, 60, 4, 60);
        echoes(far, 2, 0, 60, 2, 60, 2, 40, 4, 60, 4, 30);
        // Two echoes of one note.
        echoes(far, 1, 0, 60, 2, 60, 2, 60, 2, 40);
        // Two notes of one minute with echoes each.
        echoes(far, 2, 0, 60, 0, 10, 2, 60, 2, 10, 2, 40, 2, 30);
        // As it was plucked: with an ear, the note came from level 0 (an echo) or 1 (none); the man must be near.
        String alike = "level 50 0 1;level 49 0 0;level 40 0 0;level 30 0 0;ear 1;";
        echoes(alike, 1, 0, 50, 2, 50, 2, 40);
        echoes(alike, 1, 0, 50, 2, 50, 2, 50, 4, 30);
        echoes(alike, 2, 0, 50, 2, 51, 2, 30);
        echoes(alike, 2, 0, 50, 1, 40, 2, 51, 2, 30);
        // The later one must come from the very level of the plucking: 48 comes from level 1 alone.
        echoes(alike, 2, 0, 50, 2, 48, 2, 40);
        // An echo at the end that no level sounds like.
        echoes(far, NONE, 0, 60, 2, 61);
        // More than one earlier note two minutes ahead; the second is the source.
        echoes(far, 2, 0, 50, 0, 60, 2, 60, 2, 30);
    }

    private void promise20Keeps() {
        checks.of("Promise 20: keeps()");
        NoteBells x = Checks.shaft("level 60 0 0;level 50 0 0;level 40 0 0;");
        due("none", x.keeps(0), 0);
        due("all", x.keeps(1), 7);
        NoteBells all = Checks.shaft("level 5 0 0;".repeat(8) + "ear 9;");
        due("seven", all.keeps(0), 7);
        due("the least bits", all.keeps(1), 1);
        // 20 and 23 sound alike at the wets 5 and 6 alone.
        NoteBells wet = Checks.shaft("level 20 0 0;level 23 0 0;level 60 0 0;");
        due("any wet", wet.keeps(0), 1);
        due("any wet, the set", wet.keeps(1), 5);
        wet.wet(7);
        due("whatever the wet is", wet.keeps(1), 5);
        NoteBells pairs = Checks.shaft("level 60 0 0;level 52 0 0;level 44 0 0;level 20 0 0;ear 9;");
        due("middle is tuned", pairs.keeps(0), 1);
        due("the outer ones", pairs.keeps(1), 13);
        NoteBells years = Checks.shaft("level 60 9 0;level 20 0 0;level 10 0 0;");
        due("ahead of years", years.keeps(0), 0);
        for (int i = 0; i < 5; i++) {
            years.year();
        }
        due("behind years", years.keeps(1), 5);
        years.falls(0);
        due("silence is not asked", years.keeps(1), 5);
        NoteBells apart = Checks.shaft("level 60 9 0;level 59 0 0;ear 2;");
        due("alike", apart.keeps(0), 1);
        apart.year();
        due("alike no more", apart.keeps(0), 0);
        due("alike no more, the set", apart.keeps(1), 3);
        due("what 2", x.keeps(2), BAD);
        for (int off : OFF) {
            due("off", x.keeps(off), BAD);
        }
        due("no levels", new NoteBells().keeps(1), 0);
    }

    private void promise21Meet() {
        checks.of("Promise 21: meet()");
        NoteBells x = Checks.shaft("level 60 1 0;level 50 0 0;level 10 9 0;level 0 0 0;ear 1;");
        due("nine years", x.meet(0, 1), 9);
        due("either way", x.meet(1, 0), 9);
        due("at 0", x.meet(2, 3), 1);
        due("a long time", x.meet(0, 3), 59);
        due("never", x.meet(1, 3), NONE);
        x.year();
        due("from now on", x.meet(0, 1), 8);
        x.wet(6);
        due("as wet as it is", x.meet(0, 1), 11);
        due("the same", x.meet(1, 1), BAD);
        for (int off : OFF) {
            due("first off", x.meet(off, 1), BAD);
            due("second off", x.meet(0, off), BAD);
        }
        NoteBells now = Checks.shaft("level 5 1 0;level 5 9 0;");
        due("now", now.meet(0, 1), 0);
        due("stays", now.level(1, 0), 5);
        due("level 2", now.meet(0, 2), BAD);
    }

    private void promise22First() {
        checks.of("Promise 22: first()");
        NoteBells x = Checks.shaft("level 60 0 0;level 50 0 0;level 20 2 0;level 10 0 0;ear 2;");
        due("the pair", x.first(), 23);
        NoteBells several = Checks.shaft("level 30 0 0;level 10 0 0;level 40 0 0;level 10 0 0;level 30 0 0;");
        due("the first of several", several.first(), 4);
        NoteBells sooner = Checks.shaft("level 30 1 0;level 29 0 0;level 10 0 0;level 10 0 0;");
        due("sooner is ahead", sooner.first(), 23);
        NoteBells none = Checks.shaft("level 30 0 0;level 10 0 0;");
        due("none", none.first(), NONE);
        due("one level", Checks.shaft("level 30 0 0;").first(), NONE);
        due("no levels", new NoteBells().first(), NONE);
        NoteBells last = Checks.shaft("level 60 0 0;level 50 0 0;level 40 0 0;level 30 0 0;level 20 0 0;level 10 0 0;level 5 0 0;level 5 0 0;");
        due("the last pair", last.first(), 67);
    }

    private void promise23Sing() {
        checks.of("Promise 23: sing()");
        NoteBells x = new NoteBells();
        due("too high", x.sing(100), BAD);
        due("too low", x.sing(-100), BAD);
        due("lowest", x.sing(-99), 1);
        due("highest", x.sing(99), 2);
        for (int i = 3; i <= 8; i++) {
            due("more", x.sing(i), i);
        }
        due("full", x.sing(0), FULL);
        due("bad ahead of full", x.sing(100), BAD);
        due("eight", x.count(6), 8);
    }

    private void promise24Hush() {
        checks.of("Promise 24: hush()");
        NoteBells x = Checks.shaft("level 10 0 0;man 0;");
        due("none", x.hush(), 0);
        sing(x, 10, 99);
        due("can't be played", x.climbing(), NONE);
        due("two", x.hush(), 2);
        due("none again", x.count(6), 0);
        due("nothing to play", x.climbing(), 0);
        due("anew", x.sing(10), 1);
    }

    private void promise25Climbing() {
        checks.of("Promise 25: climbing()");
        NoteBells x = Checks.shaft("level 60 0 0;level 50 0 0;level 40 0 0;level 30 0 0;level 20 0 0;man 0;man 4;");
        due("no hymn", x.climbing(), 0);
        sing(x, 60, 20);
        due("nobody climbs", x.climbing(), 0);
        sing(x, 30);
        due("the near one", x.climbing(), 1);
        sing(x, 60, 50);
        due("each his part", x.climbing(), 2);
        x.climbs(1, 0);
        due("from where they stand", x.climbing(), 6);
        x.falls(0);
        due("silence is not asked", x.climbing(), 6);
        due("nothing is changed", x.man(1), 0);
        sing(x, 45);
        due("from nowhere", x.climbing(), NONE);
        NoteBells nobody = Checks.shaft("level 60 0 0;");
        nobody.sing(60);
        due("nobody", nobody.climbing(), NONE);
        // Far-sighted: the near man for the first note is not the best one.
        NoteBells far = Checks.shaft("level 60 0 0;level 50 0 0;level 40 0 0;level 30 0 0;level 20 0 0;man 1;man 4;");
        sing(far, 40, 50, 40, 50);
        due("far-sighted", far.climbing(), 2);
    }

    private void by(NoteBells x, int... menAndLevels) {
        for (int i = 0; i + 1 < menAndLevels.length; i += 2) {
            due("by(" + i / 2 + ", 0)", x.by(i / 2, 0), menAndLevels[i]);
            due("by(" + i / 2 + ", 1)", x.by(i / 2, 1), menAndLevels[i + 1]);
        }
    }

    private void promise26By() {
        checks.of("Promise 26: by()");
        NoteBells x = Checks.shaft("level 60 0 0;level 50 0 0;level 40 0 0;level 30 0 0;level 20 0 0;man 0;man 4;");
        due("no hymn", x.by(0, 0), BAD);
        sing(x, 60, 20, 30, 60, 50);
        by(x, 0, 0, 1, 4, 1, 3, 0, 0, 0, 1);
        due("behind the hymn", x.by(5, 0), BAD);
        due("what 2", x.by(0, 2), BAD);
        due("what -1", x.by(0, -1), BAD);
        for (int off : OFF) {
            due("note off", x.by(off, 0), BAD);
            due("what off", x.by(0, off), BAD);
        }
        sing(x, 45);
        due("can't be played", x.by(0, 0), NONE);
        due("can't be played, level", x.by(5, 1), NONE);
        due("bad ahead of none", x.by(6, 0), BAD);
        NoteBells even = Checks.shaft("level 60 0 0;level 50 0 0;level 60 0 0;man 1;man 1;man 1;");
        sing(even, 60);
        by(even, 0, 0);
        sing(even, 50);
        by(even, 0, 0, 1, 1);
        NoteBells middle = Checks.shaft("level 60 0 0;level 50 0 0;level 40 0 0;man 2;man 0;");
        sing(middle, 50, 40);
        by(middle, 1, 1, 0, 2);
        NoteBells nobody = Checks.shaft("level 60 0 0;");
        nobody.sing(60);
        due("nobody", nobody.by(0, 0), NONE);
        NoteBells third = Checks.shaft("level 60 0 0;level 50 0 0;level 40 0 0;level 30 0 0;level 20 0 0;level 10 0 0;level 5 0 0;level 0 0 0;man 0;man 0;man 7;");
        sing(third, 0, 5, 0, 60, 0, 5, 60, 0);
        by(third, 2, 7, 2, 6, 2, 7, 0, 0, 2, 7, 2, 6, 0, 0, 2, 7);
    }

    private void promise27Mark() {
        checks.of("Promise 27: mark()");
        NoteBells x = Checks.shaft("level 20 3 1;level 10 0 0;level 0 0 1;man 2;man 2;man 0;wet 6;");
        int[][] wants = {{20, 21, 14, 42, 14, 21}, {10, 10, 4, 20, 5, 10}, {0, 1, -6, 2, -4, 2}};
        for (int l = 0; l < 3; l++) {
            for (int kind = 0; kind < 6; kind++) {
                due("mark(" + kind + ", " + l + ")", x.mark(kind, l), wants[l][kind]);
            }
        }
        due("kind 6", x.mark(6, 0), NO);
        due("level 3", x.mark(0, 3), NO);
        for (int off : OFF) {
            due("kind off", x.mark(off, 0), NO);
            due("level off", x.mark(0, off), NO);
        }
        x.year();
        due("worn", x.mark(0, 0), 17);
        x.climbs(0, 1);
        due("climbed", x.mark(5, 1), 11);
    }

    private void promise28Keep() {
        checks.of("Promise 28: keep()");
        NoteBells x = Checks.shaft("level 20 3 1;");
        due("at first", x.keep(0), 0);
        x.year();
        due("a year on", x.keep(1), 1);
        due("again", x.keep(0), 1);
        due("image 2", x.keep(2), BAD);
        due("image -1", x.keep(-1), BAD);
        for (int off : OFF) {
            due("off", x.keep(off), BAD);
        }
        x.year();
        due("kept again", x.back(0), 1);
    }

    private void promise29Back() {
        checks.of("Promise 29: back()");
        NoteBells x = Checks.shaft("level 20 3 1;level 30 1 0;man 1;ear 2;wet 4;pace 3;");
        due("none kept", x.back(0), STATE);
        due("image 2", x.back(2), BAD);
        x.year();
        hear(x, 3, 25, 4, 26);
        sing(x, 25, 15, 25);
        x.falls(1);
        x.keep(1);
        x.year();
        x.wet(9);
        x.climbs(0, 0);
        x.mends();
        x.forget();
        hear(x, 9, 1, 9, 1, 9, 1);
        x.hush();
        sing(x, 15, 15, 15, 15);
        x.mark(0, 0);
        Checks.type(x, "ear");
        due("the other", x.back(0), STATE);
        due("back", x.back(1), 1);
        counts("behind back()", x, 2, 1, 2, 4, 3, 2, 3, 1, 3);
        due("pitch", x.level(0, 0), 17);
        due("pitch below", x.level(1, 0), 29);
        due("man", x.man(0), 1);
        due("rope", x.plucks(0), NO);
        due("mends", x.mends(), 1);
        due("the last minute", x.heard(3, 0), BAD);
        due("the minute may be the same", x.heard(4, 26), 3);
        due("back to two notes", x.back(1), 1);
        due("the first note", x.where(0), 2);
        due("the tracks", x.tracks(), 1);
        due("the men", x.men(), 1);
        due("the hymn", x.climbing(), 2);
        due("who plays it", x.by(2, 1), 1);
        due("trace stays", x.trace(), 1);
        x.year();
        due("as often as asked", x.back(1), 1);
        due("rope again", x.mends(), 1);
        for (int off : OFF) {
            due("off", x.back(off), BAD);
        }
        x.clear();
        Checks.type(x, "level 1 0 0;");
        x.shaft();
        due("gone", x.back(1), STATE);
    }

    private void promise30Count() {
        checks.of("Promise 30: count()");
        NoteBells x = Checks.shaft("level 20 3 1;level 20 3 1;level 20 3 1;man 1;man 0;ear 5;wet 7;pace 2;");
        hear(x, 1, 1, 2, 2, 3, 3, 4, 4);
        sing(x, 1, 2, 3, 4, 5, 6);
        x.year();
        Checks.type(x, "level 1 2");
        counts("told, heard, sung and typed", x, 3, 2, 5, 7, 2, 4, 6, 1, 9);
        due("what 9", x.count(9), BAD);
        due("what -1", x.count(-1), BAD);
        due("least", x.count(Integer.MIN_VALUE), BAD);
    }

    private void promise31Trace() {
        checks.of("Promise 31: trace()");
        NoteBells x = Checks.shaft("level 20 3 1;");
        long[] wants = {1, 12, 113, 1124, 11225, 111226};
        for (int kind = 0; kind < 6; kind++) {
            x.mark(kind, 0);
            due("behind kind " + kind, x.trace(), wants[kind]);
        }
        x.mark(6, 0);
        x.mark(-1, 0);
        x.mark(0, 1);
        due("nothing is changed", x.trace(), 111226);
        x.keep(0);
        x.mark(0, 0);
        x.back(0);
        due("not in an image", x.trace(), 111227);
        x.shaft();
        due("read anew", x.trace(), 111227);
        due("nothing by itself", x.level(0, 3), NO);
    }
}
