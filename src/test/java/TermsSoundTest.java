/** "Terms" behind "======== 2", a test for each sentence: SOUND, TAKEN, COME, climbing, the rope that FELL, YEARS. */
final class TermsSoundTest {
    private static final int BAD = -1, STATE = -2, NO = -1000000;

    private final Checks checks = new Checks();

    public static void main(String[] args) {
        TermsSoundTest t = new TermsSoundTest();
        t.soundIsCutByWet();
        t.soundMayBeBelow0();
        t.takenAtJustEar();
        t.takenByEachEar();
        t.takenAsTheSoundsAre();
        t.comesAtJustEar();
        t.comesByEachEar();
        t.aNoteIsMinus99To99();
        t.stepsAreLevelsBetween();
        t.pluckingIsTheSound();
        t.silentFromTheFallDown();
        t.silentTillMended();
        t.fellHigherAndLower();
        t.silenceIsOfPluckingAlone();
        t.wearTakesOff();
        t.pitchIs0AtLeast();
        t.yearIs0AtFirst();
        t.yearIs999AtMost();
        t.checks.end();
    }

    private void due(String call, long got, long want) {
        checks.due(call, got, want);
    }

    private void soundIsCutByWet() {
        checks.of("SOUND of a LEVEL: PITCH less (WET times (its number and 1) by 2, cut)");
        NoteBells x = Checks.shaft("level 60 0 0;".repeat(8));
        for (int w = 0; w <= 9; w++) {
            x.wet(w);
            for (int l = 0; l < 8; l++) {
                int halves = w * (l + 1);
                due("level(" + l + ", 3) in WET " + w, x.level(l, 3), 60 - (halves - halves % 2) / 2);
            }
        }
        NoteBells y = Checks.shaft("level 60 0 0;level 60 0 0;level 60 0 0;wet 1;");
        due("a half is cut", y.level(0, 3), 60);
        due("a whole one is not", y.level(1, 3), 59);
        due("one and a half", y.level(2, 3), 59);
        due("PITCH is not wet", y.level(1, 0), 60);
    }

    private void soundMayBeBelow0() {
        checks.of("SOUND; it may be below 0");
        NoteBells x = Checks.shaft("level 0 0 0;".repeat(8) + "man 0;man 7;man 1;");
        int[][] soundsOf = {{1, 0}, {2, -1}, {3, -1}, {8, -4}, {9, -4}};
        for (int[] s : soundsOf) {
            x.wet(s[0]);
            due("level(0, 3) in WET " + s[0], x.level(0, 3), s[1]);
            due("plucks(0) in WET " + s[0], x.plucks(0), s[1]);
        }
        due("the least", x.level(7, 3), -36);
        due("the least, plucked", x.plucks(1), -36);
        due("plucks(2)", x.plucks(2), -9);
        due("comes(-36)", x.comes(-36), 128);
        due("comes(36)", x.comes(36), 0);
        due("taken(7)", x.taken(7), 128);
        NoteBells refusals = Checks.shaft("level 0 0 0;level 0 0 0;level 0 0 0;man 0;man 1;man 2;wet 2;");
        due("a SOUND of -1", refusals.plucks(0), -1);
        due("a SOUND of -2", refusals.plucks(1), -2);
        due("a SOUND of -3", refusals.plucks(2), -3);
    }

    private void takenAtJustEar() {
        checks.of("Two LEVELS can be TAKEN for one another, if their SOUNDS differ by EAR at most");
        NoteBells x = Checks.shaft("level 20 0 0;level 23 0 0;level 24 0 0;level 17 0 0;level 16 0 0;ear 3;");
        due("taken(0)", x.taken(0), 0b01011);
        due("taken(1)", x.taken(1), 0b00111);
        due("taken(2)", x.taken(2), 0b00110);
        due("taken(3)", x.taken(3), 0b11001);
        due("taken(4)", x.taken(4), 0b11000);
    }

    private void takenByEachEar() {
        checks.of("TAKEN, if their SOUNDS differ by EAR (0 .. 9) at most");
        for (int ear = 0; ear <= 9; ear++) {
            NoteBells x = Checks.shaft("level 30 0 0;level " + (30 + ear) + " 0 0;level " + (31 + ear) + " 0 0;ear " + ear + ";");
            due("taken(0) by EAR " + ear, x.taken(0), 3);
            due("taken(1) by EAR " + ear, x.taken(1), ear == 0 ? 3 : 7);
            due("taken(2) by EAR " + ear, x.taken(2), ear == 0 ? 4 : 6);
        }
        NoteBells all = Checks.shaft("level 5 0 0;".repeat(8));
        for (int l = 0; l < 8; l++) {
            due("all alike, taken(" + l + ")", all.taken(l), 255);
        }
        NoteBells none = Checks.shaft("level 0 0 0;level 8 0 0;level 16 0 0;level 24 0 0;level 32 0 0;level 40 0 0;level 48 0 0;level 56 0 0;ear 7;");
        for (int l = 0; l < 8; l++) {
            due("itself alone, taken(" + l + ")", none.taken(l), 1 << l);
        }
    }

    private void takenAsTheSoundsAre() {
        checks.of("TAKEN by SOUNDS, as wet and worn as they are");
        NoteBells x = Checks.shaft("level 20 1 0;level 24 0 0;ear 3;");
        due("as told", x.taken(0), 1);
        x.wet(1);
        due("in WET 1", x.taken(0), 3);
        x.year();
        due("a YEAR on", x.taken(0), 1);
        due("comes(24)", x.comes(24), 2);
        due("comes(22)", x.comes(22), 3);
    }

    private void comesAtJustEar() {
        checks.of("A note can COME from LEVELS whose SOUND differs from it by EAR at most");
        NoteBells x = Checks.shaft("level 30 0 0;level 40 0 0;ear 4;");
        int[][] wants = {{25, 0}, {26, 1}, {30, 1}, {34, 1}, {35, 0}, {36, 2}, {44, 2}, {45, 0}};
        for (int[] w : wants) {
            due("comes(" + w[0] + ")", x.comes(w[0]), w[1]);
        }
    }

    private void comesByEachEar() {
        checks.of("COME from LEVELS whose SOUND differs by EAR (0 .. 9) at most");
        for (int ear = 0; ear <= 9; ear++) {
            NoteBells x = Checks.shaft("level 5 0 0;ear " + ear + ";");
            for (int note = -12; note <= 22; note++) {
                due("comes(" + note + ") by EAR " + ear, x.comes(note), note >= 5 - ear && note <= 5 + ear ? 1 : 0);
            }
        }
        NoteBells low = Checks.shaft("level 0 0 0;".repeat(8) + "wet 9;ear 9;");
        due("the lowest SOUND of all and EAR", low.comes(-45), 128);
        due("one below", low.comes(-46), 0);
        NoteBells high = Checks.shaft("level 60 0 0;ear 9;");
        due("the highest SOUND of all and EAR", high.comes(69), 1);
        due("one above", high.comes(70), 0);
    }

    private void aNoteIsMinus99To99() {
        checks.of("A note (-99 .. 99)");
        NoteBells x = Checks.shaft("level 30 0 0;");
        int[] bad = {-100, 100, Integer.MIN_VALUE, Integer.MAX_VALUE, Integer.MIN_VALUE + 30, 30 + 256, 30 - 256, 30 + 65536};
        for (int note : bad) {
            due("comes(" + note + ")", x.comes(note), BAD);
            due("heard(0, " + note + ")", x.heard(0, note), BAD);
            due("sing(" + note + ")", x.sing(note), BAD);
        }
        due("comes(-99)", x.comes(-99), 0);
        due("comes(99)", x.comes(99), 0);
        due("heard(0, -99)", x.heard(0, -99), 1);
        due("heard(0, 99)", x.heard(0, 99), 2);
        due("sing(-99)", x.sing(-99), 1);
        due("sing(99)", x.sing(99), 2);
    }

    private void stepsAreLevelsBetween() {
        checks.of("A man CLIMBS to a LEVEL: as many steps as LEVELS between");
        NoteBells x = Checks.shaft("level 1 0 0;".repeat(8) + "man 0;man 7;");
        due("all the way down", x.climbs(0, 7), 7);
        due("all the way up", x.climbs(1, 0), 7);
        due("one up", x.climbs(0, 6), 1);
        due("one down", x.climbs(1, 1), 1);
        due("to another man's", x.climbs(0, 1), 5);
        due("where he is", x.climbs(0, 1), STATE);
        due("man(0)", x.man(0), 1);
        due("man(1)", x.man(1), 1);
    }

    private void pluckingIsTheSound() {
        checks.of("He PLUCKS: the SOUND of his LEVEL");
        NoteBells x = Checks.shaft("level 60 9 0;level 0 0 0;man 0;wet 9;");
        due("of the first", x.plucks(0), 56);
        x.climbs(0, 1);
        due("of the second", x.plucks(0), -9);
        x.climbs(0, 0);
        x.year();
        due("worn", x.plucks(0), 47);
    }

    private void silentFromTheFallDown() {
        checks.of("where the rope FELL at a LEVEL, all from that one down are SILENT");
        for (int fall = 0; fall < 8; fall++) {
            NoteBells x = Checks.shaft("level 9 0 0;".repeat(8) + "man 0;");
            due("falls(" + fall + ")", x.falls(fall), 8 - fall);
            due("at 0 behind falls(" + fall + ")", x.plucks(0), fall > 0 ? 9 : NO);
            for (int l = 1; l < 8; l++) {
                x.climbs(0, l);
                due("at " + l + " behind falls(" + fall + ")", x.plucks(0), l < fall ? 9 : NO);
            }
        }
    }

    private void silentTillMended() {
        checks.of("SILENT, till it is MENDED");
        NoteBells x = Checks.shaft("level 9 0 0;level 8 0 0;man 1;");
        due("whole at first", x.plucks(0), 8);
        due("nothing to mend", x.mends(), STATE);
        x.falls(1);
        x.year();
        x.wet(0);
        due("still SILENT", x.plucks(0), NO);
        due("mends()", x.mends(), 1);
        due("MENDED", x.plucks(0), 8);
        due("nothing more to mend", x.mends(), STATE);
        due("falls(1) again", x.falls(1), 1);
        due("falls(0)", x.falls(0), 2);
        due("mends() of all", x.mends(), 2);
        NoteBells eight = Checks.shaft("level 9 0 0;".repeat(8) + "man 7;");
        for (int fall = 7; fall >= 0; fall--) {
            due("falls(" + fall + ") of eight", eight.falls(fall), 8 - fall);
            due("plucks(0) at the lowest", eight.plucks(0), NO);
            due("mends() of " + (8 - fall), eight.mends(), 8 - fall);
            due("plucks(0) at the lowest, MENDED", eight.plucks(0), 9);
            due("mends() again", eight.mends(), STATE);
        }
    }

    private void fellHigherAndLower() {
        checks.of("it FELL there or higher already");
        NoteBells x = Checks.shaft("level 9 0 0;".repeat(4) + "man 2;");
        due("falls(3)", x.falls(3), 1);
        due("there", x.falls(3), STATE);
        due("one higher", x.falls(2), 2);
        due("one lower", x.falls(3), STATE);
        due("there, higher", x.falls(2), STATE);
        due("plucks(0)", x.plucks(0), NO);
        due("falls(0)", x.falls(0), 4);
        for (int l = 0; l < 4; l++) {
            due("falls(" + l + ") behind all", x.falls(l), STATE);
        }
        due("mends()", x.mends(), 4);
    }

    private void silenceIsOfPluckingAlone() {
        checks.of("SILENT LEVELS have a SOUND, and are climbed to");
        NoteBells x = Checks.shaft("level 9 1 0;level 9 0 0;man 0;");
        x.falls(0);
        due("level(0, 3)", x.level(0, 3), 9);
        due("taken(0)", x.taken(0), 3);
        due("comes(9)", x.comes(9), 3);
        due("climbs(0, 1)", x.climbs(0, 1), 1);
        due("year()", x.year(), 1);
        due("level(0, 0)", x.level(0, 0), 8);
        due("mark(0, 1)", x.mark(0, 1), 9);
    }

    private void wearTakesOff() {
        checks.of("A YEAR goes by: each PITCH is WEAR less");
        NoteBells x = Checks.shaft("level 60 0 0;level 60 1 0;level 60 9 0;");
        due("year()", x.year(), 1);
        due("WEAR 0", x.level(0, 0), 60);
        due("WEAR 1", x.level(1, 0), 59);
        due("WEAR 9", x.level(2, 0), 51);
        due("year() again", x.year(), 2);
        due("WEAR 0 again", x.level(0, 0), 60);
        due("WEAR 1 again", x.level(1, 0), 58);
        due("WEAR 9 again", x.level(2, 0), 42);
        due("WEAR stays", x.level(2, 1), 9);
        due("SOUND", x.level(2, 3), 42);
    }

    private void pitchIs0AtLeast() {
        checks.of("each PITCH is WEAR less, 0 at least");
        NoteBells x = Checks.shaft("level 10 9 0;level 9 9 0;level 8 9 0;level 1 9 0;level 0 9 0;level 0 0 0;level 18 9 0;level 17 9 0;");
        x.year();
        int[] wants = {1, 0, 0, 0, 0, 0, 9, 8};
        for (int l = 0; l < 8; l++) {
            due("level(" + l + ", 0) behind a YEAR", x.level(l, 0), wants[l]);
        }
        x.year();
        for (int l = 0; l < 8; l++) {
            due("level(" + l + ", 0) behind two YEARS", x.level(l, 0), 0);
        }
        x.year();
        x.wet(9);
        due("the SOUND is less than 0 all the same", x.level(0, 3), -4);
    }

    private void yearIs0AtFirst() {
        checks.of("(YEAR 0 at first");
        NoteBells x = Checks.shaft("level 60 1 0;");
        due("count(7)", x.count(7), 0);
        due("keep(0)", x.keep(0), 0);
        for (int year = 1; year <= 400; year++) {
            due("year()", x.year(), year);
        }
        due("count(7) then", x.count(7), 400);
        due("PITCH then", x.level(0, 0), 0);
    }

    /** No object comes to YEAR 999 within its 512 calls: what it answers there is free, but stands as told. */
    private void yearIs999AtMost() {
        checks.of("YEAR 999 at most");
        NoteBells x = Checks.shaft("level 60 0 0;level 5 1 0;man 1;");
        for (int year = 1; year <= 999; year++) {
            due("year()", x.year(), year);
        }
        due("year() in 999", x.year(), STATE);
        due("count(7)", x.count(7), 999);
        due("year() again", x.year(), STATE);
        due("keep(1)", x.keep(1), 999);
        due("level(0, 0)", x.level(0, 0), 60);
        due("meet(0, 1)", x.meet(0, 1), -9);
        due("shaft()", x.shaft(), 0);
        due("year() in a shaft read anew", x.year(), 1);
    }
}
