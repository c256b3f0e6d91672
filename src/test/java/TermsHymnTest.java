/** "Terms" behind "======== 3": A HYMN, CLIMBING and BY. */
final class TermsHymnTest {
    private static final int BAD = -1, FULL = -3, NONE = -9;
    /** Eight LEVELS, of which each has a SOUND of its own: 60, 52 .. 4. */
    private static final String APART =
        "level 60 0 0;level 52 0 0;level 44 0 0;level 36 0 0;level 28 0 0;level 20 0 0;level 12 0 0;level 4 0 0;";

    private final Checks checks = new Checks();

    public static void main(String[] args) {
        TermsHymnTest t = new TermsHymnTest();
        t.eightNotesAtMost();
        t.hymnOfNone();
        t.playedByNobody();
        t.leastStepsOfOneMan();
        t.leastStepsOfAllTogether();
        t.fromWhereTheyStand();
        t.asManyStepsAsHeLikes();
        t.byALevelFromWhichTheNoteCanCome();
        t.noneIfANoteComesFromNowhere();
        t.farSighted();
        t.byTheFirstMan();
        t.byTheFirstLevel();
        t.byTheManAheadOfTheLevel();
        t.byNoteAheadOfNote();
        t.byAWayOfLeastStepsAlone();
        t.byEachNote();
        t.byEachManToTheHighest();
        t.nothingIsChanged();
        t.checks.end();
    }

    private void due(String call, long got, long want) {
        checks.due(call, got, want);
    }

    private static int at(int l) {
        return 60 - 8 * l;
    }

    private static NoteBells hymn(String shaft, int... notes) {
        NoteBells x = Checks.shaft(shaft);
        Checks.sing(x, notes);
        return x;
    }

    /** The men and LEVELS of a hymn, note by note. */
    private void by(String way, NoteBells x, int... menAndLevels) {
        for (int i = 0; i + 1 < menAndLevels.length; i += 2) {
            due(way + ", by(" + i / 2 + ", 0)", x.by(i / 2, 0), menAndLevels[i]);
            due(way + ", by(" + i / 2 + ", 1)", x.by(i / 2, 1), menAndLevels[i + 1]);
        }
    }

    private void eightNotesAtMost() {
        checks.of("A HYMN: notes (8 at most)");
        NoteBells x = Checks.shaft(APART + "man 0;");
        for (int n = 1; n <= 8; n++) {
            due("note " + n, x.sing(at(n - 1)), n);
            due("climbing() of " + n, x.climbing(), n - 1);
        }
        due("a ninth", x.sing(at(0)), FULL);
        due("BAD is ahead of FULL", x.sing(100), BAD);
        due("there are", x.count(6), 8);
        due("climbing()", x.climbing(), 7);
        for (int i = 0; i < 8; i++) {
            due("by(" + i + ", 0)", x.by(i, 0), 0);
            due("by(" + i + ", 1)", x.by(i, 1), i);
        }
        due("by(8, 0)", x.by(8, 0), BAD);
        due("hush()", x.hush(), 8);
        due("the first again", x.sing(0), 1);
    }

    private void hymnOfNone() {
        checks.of("A HYMN of none");
        due("climbing() of a new object", new NoteBells().climbing(), 0);
        due("by(0, 0) of a new object", new NoteBells().by(0, 0), BAD);
        due("hush() of a new object", new NoteBells().hush(), 0);
        NoteBells x = Checks.shaft(APART + "man 3;");
        due("climbing()", x.climbing(), 0);
        due("by(0, 0)", x.by(0, 0), BAD);
        due("by(0, 1)", x.by(0, 1), BAD);
        Checks.sing(x, 99);
        due("climbing() of a note from nowhere", x.climbing(), NONE);
        due("hush()", x.hush(), 1);
        due("climbing() then", x.climbing(), 0);
        due("hush() again", x.hush(), 0);
    }

    private void playedByNobody() {
        checks.of("CLIMBING with nobody: NONE");
        NoteBells x = Checks.shaft(APART);
        due("climbing() of no HYMN", x.climbing(), 0);
        Checks.sing(x, at(0));
        due("climbing()", x.climbing(), NONE);
        due("by(0, 0)", x.by(0, 0), NONE);
        due("by(0, 1)", x.by(0, 1), NONE);
        due("by(1, 0)", x.by(1, 0), BAD);
        NoteBells none = new NoteBells();
        none.sing(0);
        due("climbing() of no LEVELS", none.climbing(), NONE);
        due("by(0, 1) of no LEVELS", none.by(0, 1), NONE);
    }

    private void leastStepsOfOneMan() {
        checks.of("CLIMBING: the least steps, of one man");
        due("where he stands", hymn(APART + "man 3;", at(3)).climbing(), 0);
        due("one up", hymn(APART + "man 3;", at(2)).climbing(), 1);
        due("one down", hymn(APART + "man 3;", at(4)).climbing(), 1);
        due("all the way", hymn(APART + "man 0;", at(7)).climbing(), 7);
        due("to and fro", hymn(APART + "man 0;", at(7), at(0), at(7), at(0), at(7), at(0), at(7), at(0)).climbing(), 56);
        due("the same again and again", hymn(APART + "man 0;", at(1), at(1), at(1), at(1), at(1), at(1), at(1), at(1)).climbing(), 1);
    }

    private void leastStepsOfAllTogether() {
        checks.of("CLIMBING: the least steps of all MEN together");
        int[] notes = {at(7), at(0), at(7), at(0), at(7), at(0), at(7), at(0)};
        due("two of one place", hymn(APART + "man 0;man 0;", notes).climbing(), 7);
        due("one at each end", hymn(APART + "man 0;man 7;", notes).climbing(), 0);
        due("between", hymn(APART + "man 1;man 5;", notes).climbing(), 3);
        int[] three = {at(0), at(4), at(7), at(0), at(4), at(7)};
        due("two for three places", hymn(APART + "man 0;man 7;", three).climbing(), 3 + 3 + 4);
        due("three for three places", hymn(APART + "man 0;man 7;man 2;", three).climbing(), 2);
        due("three of one place", hymn(APART + "man 7;man 7;man 7;", three).climbing(), 7 + 3);
    }

    private void fromWhereTheyStand() {
        checks.of("CLIMBING: from where they stand");
        NoteBells x = hymn(APART + "man 0;man 7;", at(3));
        due("as told", x.climbing(), 3);
        by("as told", x, 0, 3);
        x.climbs(1, 4);
        due("behind climbs(1, 4)", x.climbing(), 1);
        by("behind climbs(1, 4)", x, 1, 3);
        x.climbs(0, 3);
        due("behind climbs(0, 3)", x.climbing(), 0);
        by("behind climbs(0, 3)", x, 0, 3);
    }

    private void asManyStepsAsHeLikes() {
        checks.of("CLIMBING: behind as many steps as he likes, whatever the PACE");
        due("seven by PACE 1", hymn(APART + "man 0;pace 1;", at(7)).climbing(), 7);
        due("seven by PACE 4", hymn(APART + "man 0;pace 4;", at(7)).climbing(), 7);
    }

    private void byALevelFromWhichTheNoteCanCome() {
        checks.of("a LEVEL from which the note can COME");
        NoteBells x = hymn("level 30 0 0;level 34 1 0;level 39 0 0;level 44 0 0;man 3;ear 4;", 35);
        due("by EAR 4", x.climbing(), 1);
        by("by EAR 4", x, 0, 2);
        x.wet(2);
        due("in WET 2", x.climbing(), 1);
        x.wet(3);
        due("in WET 3", x.climbing(), 0);
        by("in WET 3", x, 0, 3);
        x.wet(9);
        due("in WET 9", x.climbing(), NONE);
        NoteBells worn = hymn("level 30 5 0;level 20 0 0;man 0;", 20);
        due("by WEAR", worn.climbing(), 1);
        worn.year();
        worn.year();
        due("two YEARS on", worn.climbing(), 0);
    }

    private void noneIfANoteComesFromNowhere() {
        checks.of("CLIMBING; NONE");
        NoteBells x = hymn(APART + "man 0;man 7;", 59, at(0), at(1));
        due("the first from nowhere", x.climbing(), NONE);
        due("by(0, 0)", x.by(0, 0), NONE);
        due("by(2, 1)", x.by(2, 1), NONE);
        NoteBells y = hymn(APART + "man 0;man 7;", at(0), at(1), 59);
        due("the last from nowhere", y.climbing(), NONE);
        due("by(0, 0), the last from nowhere", y.by(0, 0), NONE);
        due("by(1, 1), the last from nowhere", y.by(1, 1), NONE);
        NoteBells z = hymn(APART + "man 0;", at(0), at(1), at(2), 99, at(4), at(5), at(6), at(7));
        due("one between from nowhere", z.climbing(), NONE);
        for (int i = 0; i < 8; i++) {
            due("by(" + i + ", 0), one between from nowhere", z.by(i, 0), NONE);
        }
        due("by(8, 0), BAD is ahead of NONE", z.by(8, 0), BAD);
        due("by(0, 2), BAD is ahead of NONE", z.by(0, 2), BAD);
    }

    private void farSighted() {
        checks.of("CLIMBING: the least steps by which all of it can be played");
        // The man who is nearer to the first note would have to come back for the second.
        NoteBells x = hymn(APART + "man 1;man 4;", at(2), at(1), at(2), at(1));
        due("climbing()", x.climbing(), 2);
        by("the farther one", x, 1, 2, 0, 1, 1, 2, 0, 1);
        // The nearer LEVEL is the wrong one.
        NoteBells y = hymn("level 50 0 0;level 40 0 0;level 30 0 0;level 50 0 0;level 20 0 0;man 1;", 50, 20);
        due("climbing() to the farther LEVEL", y.climbing(), 3);
        by("the farther LEVEL", y, 0, 3, 0, 4);
    }

    private void byTheFirstMan() {
        checks.of("BY: of several ways the one that is first by men");
        by("three at one place", hymn(APART + "man 5;man 5;man 5;", at(5)), 0, 5);
        by("as far from each", hymn(APART + "man 4;man 2;man 4;", at(3)), 0, 3);
        by("the second and the third", hymn(APART + "man 7;man 4;man 2;", at(3)), 1, 3);
        by("the third alone", hymn(APART + "man 7;man 0;man 3;", at(3)), 2, 3);
        by("below the other", hymn(APART + "man 6;man 4;", at(5)), 0, 5);
    }

    private void byTheFirstLevel() {
        checks.of("BY: of several ways the one that is first by LEVELS");
        by("up or down", hymn("level 50 0 0;level 40 0 0;level 50 0 0;man 1;", 50), 0, 0);
        by("the nearest", hymn("level 50 0 0;level 40 0 0;level 40 0 0;level 50 0 0;man 2;", 50), 0, 3);
        by("the last", hymn("level 5 0 0;".repeat(8) + "man 7;", 5), 0, 7);
    }

    private void byTheManAheadOfTheLevel() {
        checks.of("BY: (the man, then the LEVEL)");
        String ends = "level 50 0 0;level 40 0 0;level 30 0 0;level 20 0 0;level 50 0 0;";
        by("the first man, though to a LEVEL farther down", hymn(ends + "man 3;man 1;", 50), 0, 4);
        by("the first man, to a LEVEL farther up", hymn(ends + "man 1;man 3;", 50), 0, 0);
    }

    private void byNoteAheadOfNote() {
        checks.of("BY: first by men and LEVELS, note by note");
        // Two of one place: either plays the one note and the other the other, in four steps.
        NoteBells x = hymn(APART + "man 2;man 2;", at(0), at(4));
        due("climbing()", x.climbing(), 4);
        by("the first note to the first man", x, 0, 0, 1, 4);
        // By the LEVEL of the first note, whatever the man of the second is.
        NoteBells y = hymn("level 50 0 0;level 40 0 0;level 50 0 0;level 20 0 0;man 1;man 3;", 50, 20);
        due("climbing() up or down", y.climbing(), 1);
        by("the first note up", y, 0, 0, 1, 3);
        // The LEVELS of a man who goes the same way in one go or in two.
        NoteBells z = hymn("level 50 0 0;level 50 0 0;level 50 0 0;level 20 0 0;man 0;", 50, 50, 20);
        due("climbing() on the way", z.climbing(), 3);
        by("as late as can be", z, 0, 0, 0, 0, 0, 3);
        NoteBells up = hymn("level 20 0 0;level 50 0 0;level 50 0 0;level 50 0 0;man 3;", 50, 50, 20);
        due("climbing() on the way up", up.climbing(), 3);
        by("as soon as can be", up, 0, 1, 0, 1, 0, 0);
    }

    private void byAWayOfLeastStepsAlone() {
        checks.of("BY: of several ways with so few steps");
        NoteBells x = hymn("level 50 0 0;level 40 0 0;level 50 0 0;level 20 0 0;man 1;", 50, 20);
        due("climbing()", x.climbing(), 2);
        by("not the first LEVEL", x, 0, 2, 0, 3);
        NoteBells y = hymn(APART + "man 0;man 4;man 7;", at(7), at(4), at(0));
        due("climbing() where they stand", y.climbing(), 0);
        by("not the first man", y, 2, 7, 1, 4, 0, 0);
    }

    private void byEachNote() {
        checks.of("who plucks the i-th note");
        NoteBells x = hymn(APART + "man 0;man 3;man 7;", at(7), at(3), at(0), at(6), at(4), at(1), at(7), at(0));
        due("climbing()", x.climbing(), 5);
        by("each his part", x, 2, 7, 1, 3, 0, 0, 2, 6, 1, 4, 0, 1, 2, 7, 0, 0);
        due("by(-1, 0)", x.by(-1, 0), BAD);
        due("by(8, 0)", x.by(8, 0), BAD);
        due("by(0, -1)", x.by(0, -1), BAD);
        due("by(0, 2)", x.by(0, 2), BAD);
    }

    private void byEachManToTheHighest() {
        checks.of("who plucks the i-th note; its LEVEL, at the ends of the shaft");
        NoteBells x = hymn(APART + "man 5;man 1;", at(0), at(5), at(0), at(1));
        due("climbing() of the second", x.climbing(), 2);
        by("the second", x, 1, 0, 0, 5, 1, 0, 1, 1);
        NoteBells y = hymn(APART + "man 7;man 4;man 2;", at(1), at(0), at(4), at(7), at(1), at(0));
        due("climbing() of the third", y.climbing(), 4);
        by("the third", y, 2, 1, 2, 0, 1, 4, 0, 7, 2, 1, 2, 0);
        NoteBells z = hymn(APART + "man 3;man 5;man 6;", at(7), at(5), at(3), at(7), at(6));
        due("climbing() to the lowest", z.climbing(), 2);
        by("to the lowest", z, 2, 7, 1, 5, 0, 3, 2, 7, 1, 6);
        // A HYMN that was longer leaves nothing behind.
        NoteBells later = hymn(APART + "man 0;man 0;", at(7), at(6), at(5), at(4), at(3), at(2), at(1), at(0));
        due("climbing() of eight", later.climbing(), 7 + 6);
        later.hush();
        Checks.sing(later, at(2), at(1));
        due("climbing() of two", later.climbing(), 3);
        by("of two", later, 0, 2, 0, 1);
    }

    private void nothingIsChanged() {
        checks.of("(Nothing is changed; SILENCE is not asked.)");
        NoteBells x = hymn(APART + "man 0;man 7;", at(3), at(4));
        x.falls(0);
        due("climbing() of SILENT ones", x.climbing(), 4);
        by("SILENT ones", x, 0, 3, 0, 4);
        due("man(0)", x.man(0), 0);
        due("man(1)", x.man(1), 7);
        due("count(6)", x.count(6), 2);
        due("climbing() again", x.climbing(), 4);
        due("mends()", x.mends(), 8);
    }
}
