/** "Terms" behind "======== 3": KEEP, MEET and FIRST. */
final class TermsTuningTest {
    private static final int BAD = -1, NONE = -9;
    /** No two are TAKEN for one another in any WET, by an EAR of 6. */
    private static final String FAR = "level 60 0 0;level 52 0 0;level 44 0 0;level 36 0 0;level 28 0 0;level 20 0 0;level 12 0 0;level 4 0 0;";

    private final Checks checks = new Checks();

    public static void main(String[] args) {
        TermsTuningTest t = new TermsTuningTest();
        t.keepOfNoneAndOne();
        t.keepOfAll();
        t.keepOfOneAlone();
        t.keepAtTheDriestAndTheWettest();
        t.keepAtAWetBetween();
        t.keepWhateverTheWetIs();
        t.keepAtJustEar();
        t.keepTheLeastBits();
        t.keepAsManyAsCanBe();
        t.keepAsWornAsTheyAre();
        t.meetNow();
        t.meetBehindYears();
        t.meetBehindTheMostYears();
        t.meetAtJustEar();
        t.meetPassingBy();
        t.meetAtPitch0();
        t.meetAsWetAsItIs();
        t.meetFromTheYearThatItIs();
        t.meetEitherWay();
        t.firstOfSeveral();
        t.firstBehindFewerYears();
        t.firstNone();
        t.nothingIsChanged();
        t.checks.end();
    }

    private void due(String call, long got, long want) {
        checks.due(call, got, want);
    }

    private void keep(String shaft, int others, int set) {
        NoteBells x = Checks.shaft(shaft);
        due("keeps(0) of '" + shaft + "'", x.keeps(0), others);
        due("keeps(1) of '" + shaft + "'", x.keeps(1), set);
    }

    private void meet(String shaft, int years) {
        NoteBells x = Checks.shaft(shaft);
        due("meet(0, 1) of '" + shaft + "'", x.meet(0, 1), years);
        due("meet(1, 0) of '" + shaft + "'", x.meet(1, 0), years);
        due("first() of '" + shaft + "'", x.first(), years == NONE ? NONE : 1);
    }

    private void first(String shaft, int pair) {
        due("first() of '" + shaft + "'", Checks.shaft(shaft).first(), pair);
    }

    // ---- KEEP

    private void keepOfNoneAndOne() {
        checks.of("KEEP: the most LEVELS, of none and of one");
        keep("", 0, 0);
        keep("ear 9;wet 9;", 0, 0);
        keep("level 0 0 0;", 0, 1);
        keep("level 60 9 1;ear 9;", 0, 1);
    }

    private void keepOfAll() {
        checks.of("KEEP: the most LEVELS of which no two can be TAKEN for one another");
        keep(FAR, 0, 255);
        keep(FAR + "ear 4;", 0, 255);
        keep("level 50 0 0;level 40 0 0;", 0, 3);
    }

    private void keepOfOneAlone() {
        checks.of("KEEP: how many others must be tuned anew, if all are alike");
        for (int n = 1; n <= 8; n++) {
            keep("level 5 0 0;".repeat(n) + "ear 9;", n - 1, 1);
        }
    }

    private void keepAtTheDriestAndTheWettest() {
        checks.of("KEEP: TAKEN at any WET 0 .. 9");
        // 0 sounds one less against 1 by every second WET, up to 5 at the WET 9.
        keep("level 10 0 0;level 10 0 0;", 1, 1);
        keep("level 11 0 0;level 10 0 0;", 0, 3);
        keep("level 10 0 0;level 15 0 0;", 1, 1);
        keep("level 10 0 0;level 16 0 0;", 0, 3);
        // The highest and the lowest: 32 apart at the WET 9.
        keep("level 10 0 0;level 60 0 0;level 60 0 0;level 60 0 0;level 60 0 0;level 60 0 0;level 60 0 0;level 42 0 0;", 6, 3);
        keep("level 10 0 0;level 60 0 0;level 60 0 0;level 60 0 0;level 60 0 0;level 60 0 0;level 60 0 0;level 43 0 0;", 5, 131);
    }

    private void keepAtAWetBetween() {
        checks.of("KEEP: TAKEN at any WET 0 .. 9, one alone");
        for (int apart = 1; apart <= 5; apart++) {
            keep("level 20 0 0;level " + (20 + apart) + " 0 0;", 1, 1);
        }
        // 0 and 2 differ by as much as WET is: each PITCH is met by one WET.
        for (int wet = 0; wet <= 9; wet++) {
            keep("level 20 0 0;level 60 0 0;level " + (20 + wet) + " 0 0;", 1, 3);
        }
        keep("level 20 0 0;level 60 0 0;level 30 0 0;", 0, 7);
        keep("level 20 0 0;level 60 0 0;level 19 0 0;", 0, 7);
    }

    private void keepWhateverTheWetIs() {
        checks.of("KEEP: at any WET, whatever it is now");
        NoteBells x = Checks.shaft("level 20 0 0;level 60 0 0;level 24 0 0;");
        for (int w = 0; w <= 9; w++) {
            x.wet(w);
            due("keeps(0) in WET " + w, x.keeps(0), 1);
            due("keeps(1) in WET " + w, x.keeps(1), 3);
        }
        due("count(3)", x.count(3), 9);
    }

    private void keepAtJustEar() {
        checks.of("KEEP (EAR as it is)");
        for (int ear = 0; ear <= 9; ear++) {
            keep("level " + (11 + ear) + " 0 0;level 10 0 0;ear " + ear + ";", 0, 3);
            keep("level " + (10 + ear) + " 0 0;level 10 0 0;ear " + ear + ";", 1, 1);
            keep("level 10 0 0;level " + (15 + ear) + " 0 0;ear " + ear + ";", 1, 1);
            keep("level 10 0 0;level " + (16 + ear) + " 0 0;ear " + ear + ";", 0, 3);
        }
    }

    private void keepTheLeastBits() {
        checks.of("KEEP: of several sets the least bits");
        keep("level 40 0 0;level 40 0 0;level 10 0 0;level 10 0 0;", 2, 5);
        keep("level 50 0 0;level 10 0 0;level 10 0 0;", 1, 3);
        // {1, 2} is 6, {0, 3} is 9, {2, 3} is 12.
        keep("level 38 0 0;level 30 0 0;level 56 0 0;level 26 0 0;ear 9;", 2, 6);
        // {1, 2} is 6, {0, 3} is 9, {1, 3} is 10.
        keep("level 21 0 0;level 26 0 0;level 16 0 0;level 13 0 0;ear 5;", 2, 6);
    }

    private void keepAsManyAsCanBe() {
        checks.of("KEEP: the most LEVELS");
        // The highest clashes with each of the others, and these with none.
        keep("level 30 0 0;level 39 0 0;level 21 0 0;ear 9;", 1, 6);
        keep("level 60 0 0;level 52 0 0;level 44 0 0;level 36 0 0;level 28 0 0;level 20 0 0;level 12 0 0;level 12 0 0;", 1, 127);
        keep("level 10 0 0;level 60 0 0;level 60 0 0;level 60 0 0;", 2, 3);
    }

    private void keepAsWornAsTheyAre() {
        checks.of("KEEP: of the PITCHES that are");
        NoteBells x = Checks.shaft("level 30 5 0;level 20 0 0;");
        due("keeps(1)", x.keeps(1), 3);
        x.year();
        due("keeps(1) a YEAR on", x.keeps(1), 3);
        x.year();
        due("keeps(0) two YEARS on", x.keeps(0), 1);
        due("keeps(1) two YEARS on", x.keeps(1), 1);
        x.year();
        due("keeps(1) three YEARS on", x.keeps(1), 1);
        x.year();
        due("keeps(1) four YEARS on", x.keeps(1), 3);
    }

    // ---- MEET

    private void meetNow() {
        checks.of("MEET: behind how many YEARS (0 .. 99): 0");
        meet("level 5 0 0;level 5 0 0;", 0);
        meet("level 5 9 0;level 5 1 0;", 0);
        meet("level 0 0 0;level 9 0 0;ear 9;", 0);
        meet("level 0 0 0;level 1 0 0;wet 1;", 0);
    }

    private void meetBehindYears() {
        checks.of("MEET: behind how many YEARS they can be TAKEN for one another first");
        meet("level 11 1 0;level 10 0 0;", 1);
        meet("level 12 1 0;level 10 0 0;", 2);
        meet("level 30 9 0;level 12 7 0;", 4);
        meet("level 10 0 0;level 50 8 0;", 5);
        meet("level 10 0 0;level 60 5 0;", 10);
        meet("level 30 4 0;level 25 3 0;", 5);
    }

    /** Behind 60 YEARS nothing wears any more: 61 .. 99 can't be the first, and NONE is told of 99 without. */
    private void meetBehindTheMostYears() {
        checks.of("MEET: behind how many YEARS (0 .. 99): the most that can be");
        meet("level 60 1 0;level 0 0 0;", 60);
        meet("level 0 0 0;level 60 1 0;", 60);
        meet("level 60 1 0;level 1 0 0;", 59);
        meet("level 60 1 0;level 0 0 0;ear 9;", 51);
        meet("level 60 0 0;level 0 0 0;", NONE);
        // At the PITCH 0 both, they differ by the WET alone.
        meet("level 60 1 0;level 0 0 0;wet 1;", NONE);
        meet("level 60 1 0;level 0 0 0;wet 1;ear 1;", 60);
    }

    private void meetAtJustEar() {
        checks.of("MEET: TAKEN by EAR");
        meet("level 20 3 0;level 10 0 0;ear 1;", 3);
        meet("level 20 3 0;level 10 0 0;ear 3;", 3);
        meet("level 20 3 0;level 10 0 0;ear 4;", 2);
        meet("level 20 3 0;level 10 0 0;ear 7;", 1);
        meet("level 20 3 0;level 10 0 0;ear 9;", 1);
        meet("level 19 3 0;level 10 0 0;ear 9;", 0);
    }

    private void meetPassingBy() {
        checks.of("MEET: NONE");
        meet("level 20 3 0;level 10 0 0;", NONE);
        meet("level 20 0 0;level 10 9 0;", NONE);
        meet("level 20 0 0;level 10 0 0;ear 9;", NONE);
        // They pass by, and meet when nothing is left of either.
        meet("level 20 3 0;level 10 1 0;", 5);
        meet("level 20 7 0;level 10 1 0;", 10);
        meet("level 60 9 0;level 59 1 0;ear 0;", 59);
    }

    private void meetAtPitch0() {
        checks.of("MEET: each PITCH is WEAR less, 0 at least");
        meet("level 5 9 0;level 0 0 0;", 1);
        meet("level 5 9 0;level 4 9 0;", 1);
        meet("level 10 9 0;level 4 9 0;", 2);
        meet("level 0 9 0;level 9 1 0;", 9);
        meet("level 10 0 0;level 0 9 0;", NONE);
    }

    private void meetAsWetAsItIs() {
        checks.of("MEET (WET as it is)");
        NoteBells x = Checks.shaft("level 20 1 0;level 20 0 0;");
        int[] wants = {0, 1, 1, 2, 2, 3, 3, 4, 4, 5};
        for (int w = 9; w >= 0; w--) {
            x.wet(w);
            due("meet(0, 1) in WET " + w, x.meet(0, 1), wants[w]);
            due("first() in WET " + w, x.first(), 1);
        }
        NoteBells y = Checks.shaft("level 20 0 0;level 24 0 0;wet 7;");
        due("as told", y.meet(0, 1), 0);
        y.wet(6);
        due("drier", y.meet(0, 1), NONE);
        y.wet(9);
        due("wetter", y.meet(0, 1), NONE);
    }

    private void meetFromTheYearThatItIs() {
        checks.of("MEET: behind how many YEARS from now on");
        NoteBells x = Checks.shaft("level 60 1 0;level 0 0 0;level 55 9 0;");
        for (int year = 0; year <= 60; year++) {
            due("meet(0, 1) in YEAR " + year, x.meet(0, 1), 60 - year);
            x.year();
        }
        due("meet(0, 1) behind that", x.meet(0, 1), 0);
        due("count(7)", x.count(7), 61);
    }

    private void meetEitherWay() {
        checks.of("MEET of two LEVELS");
        NoteBells x = Checks.shaft(FAR);
        for (int l = 0; l < 8; l++) {
            due("meet(" + l + ", itself)", x.meet(l, l), BAD);
            due("meet(" + l + ", 7 less that)", x.meet(l, 7 - l), NONE);
            due("meet(" + l + ", 8)", x.meet(l, 8), BAD);
            due("meet(8, " + l + ")", x.meet(8, l), BAD);
            due("meet(" + l + ", -1)", x.meet(l, -1), BAD);
            due("meet(-1, " + l + ")", x.meet(-1, l), BAD);
        }
        due("meet(8, 8)", x.meet(8, 8), BAD);
        due("meet(-1, -1)", x.meet(-1, -1), BAD);
    }

    // ---- FIRST

    private void firstOfSeveral() {
        checks.of("FIRST: of several the first: 10 A and B");
        first("level 5 0 0;".repeat(8), 1);
        first("level 30 0 0;level 10 0 0;level 30 0 0;level 10 0 0;", 2);
        first("level 30 0 0;level 10 0 0;level 10 0 0;level 30 0 0;", 3);
        first("level 50 0 0;level 30 0 0;level 10 0 0;level 10 0 0;level 30 0 0;", 14);
        first("level 50 0 0;level 10 0 0;level 30 0 0;level 10 0 0;level 30 0 0;", 13);
        first("level 60 0 0;level 52 0 0;level 44 0 0;level 36 0 0;level 28 0 0;level 20 0 0;level 12 0 0;level 12 0 0;", 67);
        first("level 60 0 0;level 52 0 0;level 44 0 0;level 36 0 0;level 28 0 0;level 20 0 0;level 12 0 0;level 60 0 0;", 7);
        // Behind as many YEARS each.
        first("level 30 1 0;level 28 0 0;level 12 1 0;level 10 0 0;", 1);
        first("level 12 1 0;level 30 1 0;level 28 0 0;level 10 0 0;", 3);
    }

    private void firstBehindFewerYears() {
        checks.of("FIRST: of all pairs (A below B) that which MEETS first");
        first("level 31 1 0;level 30 0 0;level 10 0 0;level 10 0 0;", 23);
        first("level 32 1 0;level 30 0 0;level 11 1 0;level 10 0 0;", 23);
        first("level 60 1 0;level 0 0 0;", 1);
        first("level 60 1 0;level 0 0 0;level 59 1 0;level 0 0 0;wet 0;ear 0;", 13);
        first("level 60 1 0;level 20 0 0;level 59 1 0;level 3 0 0;", 12);
    }

    private void firstNone() {
        checks.of("FIRST: NONE");
        first("", NONE);
        first("level 5 0 0;", NONE);
        first("level 5 0 0;level 15 0 0;", NONE);
        first(FAR, NONE);
        first(FAR + "ear 7;", NONE);
        first(FAR + "ear 8;", 1);
        first(FAR + "wet 9;ear 9;", NONE);
    }

    private void nothingIsChanged() {
        checks.of("(Nothing is changed; SILENCE is not asked.)");
        NoteBells x = Checks.shaft("level 30 5 0;level 20 0 0;level 50 1 0;wet 2;");
        int meet = x.meet(0, 1);
        int first = x.first();
        int keeps = x.keeps(1);
        due("level(0, 0)", x.level(0, 0), 30);
        due("level(2, 0)", x.level(2, 0), 50);
        due("count(7)", x.count(7), 0);
        due("count(3)", x.count(3), 2);
        x.falls(0);
        due("meet(0, 1) of SILENT ones", x.meet(0, 1), meet);
        due("first() of SILENT ones", x.first(), first);
        due("keeps(1) of SILENT ones", x.keeps(1), keeps);
        due("mends()", x.mends(), 3);
    }
}
