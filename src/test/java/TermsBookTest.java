/** "Terms" behind "======== 3", THE BOOK: notes and MINUTES, TRACKS, WHERE, MEN and ECHOES. */
final class TermsBookTest {
    private static final int BAD = -1, FULL = -3, NONE = -9;
    /** Eight LEVELS, of which each has a SOUND of its own: 60, 52 .. 4. */
    private static final String APART =
        "level 60 0 0;level 52 0 0;level 44 0 0;level 36 0 0;level 28 0 0;level 20 0 0;level 12 0 0;level 4 0 0;";
    /** The same with an ECHO at the highest and at the lowest but one. */
    private static final String ECHOING =
        "level 60 0 1;level 52 0 0;level 44 0 0;level 36 0 0;level 28 0 0;level 20 0 0;level 12 0 1;level 4 0 0;";

    private final Checks checks = new Checks();

    public static void main(String[] args) {
        TermsBookTest t = new TermsBookTest();
        t.aMinuteIs0To99();
        t.noMinuteIsEarlier();
        t.sixNotesAtMost();
        t.tracksOfNoNotes();
        t.tracksOfOneNote();
        t.tracksWithNoMinutesBetween();
        t.tracksAsFarAsPaceTimesMinutes();
        t.tracksFromEachToTheNext();
        t.tracksByEar();
        t.mostTracks();
        t.whereInSomeOfThese();
        t.whereByEachNote();
        t.whereThereAreNoTracks();
        t.menOfNoNotes();
        t.menUpToThree();
        t.menHoweverManyStand();
        t.menByTheNotesThatAreHis();
        t.menAreTheFewest();
        t.echoJust2MinutesAhead();
        t.echoOfAnEarlierOne();
        t.echoOfAnEcho();
        t.echoFromALevelWithAnEcho();
        t.echoFromWhichTheLaterCanCome();
        t.echoAsItWasPlucked();
        t.echoesOfOneNote();
        t.noneFromNowhere();
        t.noneIfThreeAreTooFew();
        t.silenceIsNotAsked();
        t.theBookIsAskedAsItIsNow();
        t.checks.end();
    }

    private void due(String call, long got, long want) {
        checks.due(call, got, want);
    }

    /** The SOUND of a LEVEL of APART. */
    private static int at(int l) {
        return 60 - 8 * l;
    }

    private void men(String shaft, int want, int... minutesAndNotes) {
        NoteBells x = Checks.shaft(shaft);
        Checks.hear(x, minutesAndNotes);
        StringBuilder b = new StringBuilder("men() in '" + shaft + "' behind");
        for (int n : minutesAndNotes) {
            b.append(' ').append(n);
        }
        due(b.toString(), x.men(), want);
    }

    // ---- notes and minutes

    private void aMinuteIs0To99() {
        checks.of("each in a MINUTE (0 .. 99)");
        NoteBells x = new NoteBells();
        int[] bad = {-1, 100, Integer.MIN_VALUE, Integer.MAX_VALUE, 256, -256, 65536};
        for (int minute : bad) {
            due("heard(" + minute + ", 0)", x.heard(minute, 0), BAD);
        }
        due("none is there", x.count(5), 0);
        due("heard(0, 0)", x.heard(0, 0), 1);
        due("heard(99, 0)", x.heard(99, 0), 2);
        due("heard(100, 0)", x.heard(100, 0), BAD);
        due("heard(-1, 0)", x.heard(-1, 0), BAD);
        NoteBells y = new NoteBells();
        due("99 as the first", y.heard(99, 0), 1);
    }

    private void noMinuteIsEarlier() {
        checks.of("a MINUTE no less than that of the one ahead");
        NoteBells x = new NoteBells();
        due("heard(50, 0)", x.heard(50, 0), 1);
        due("one less", x.heard(49, 0), BAD);
        due("the least", x.heard(0, 0), BAD);
        due("the same", x.heard(50, 0), 2);
        due("one more", x.heard(51, 0), 3);
        due("that of the first", x.heard(50, 0), BAD);
        due("there are", x.count(5), 3);
        x.forget();
        due("the first of another BOOK", x.heard(0, 0), 1);
        due("one more than that", x.heard(1, 0), 2);
        due("one less than that", x.heard(0, 0), BAD);
    }

    private void sixNotesAtMost() {
        checks.of("notes that were heard, 6 at most");
        NoteBells x = new NoteBells();
        for (int n = 1; n <= 6; n++) {
            due("note " + n, x.heard(n, 0), n);
        }
        due("a seventh", x.heard(7, 0), FULL);
        due("a seventh in the same MINUTE", x.heard(6, 0), FULL);
        due("a seventh in the last MINUTE", x.heard(99, 99), FULL);
        due("BAD is ahead of FULL", x.heard(5, 0), BAD);
        due("there are", x.count(5), 6);
        due("forget()", x.forget(), 6);
        due("the first again", x.heard(0, 0), 1);
    }

    // ---- one man

    private void tracksOfNoNotes() {
        checks.of("tracks(): TRACKS (no notes: 1)");
        due("of a new object", new NoteBells().tracks(), 1);
        NoteBells x = Checks.shaft(APART);
        due("of eight LEVELS", x.tracks(), 1);
        x.heard(0, 99);
        due("of a note from nowhere", x.tracks(), 0);
        x.forget();
        due("forgotten", x.tracks(), 1);
        due("where(0)", x.where(0), BAD);
    }

    private void tracksOfOneNote() {
        checks.of("TRACKS: each at a LEVEL from which it can COME");
        for (int n = 1; n <= 8; n++) {
            NoteBells x = Checks.shaft("level 7 0 0;".repeat(n));
            x.heard(99, 7);
            due("of " + n + " LEVELS", x.tracks(), n);
            due("where(0) of " + n, x.where(0), (1 << n) - 1);
        }
        NoteBells none = new NoteBells();
        none.heard(0, 0);
        due("of no LEVELS", none.tracks(), 0);
        due("where(0) of no LEVELS", none.where(0), 0);
    }

    private void tracksWithNoMinutesBetween() {
        checks.of("TRACKS: with no minutes between he stays at his LEVEL");
        for (int pace = 1; pace <= 4; pace++) {
            NoteBells x = Checks.shaft("level 7 0 0;".repeat(8) + "pace " + pace + ";");
            Checks.hear(x, 4, 7, 4, 7);
            due("two of a MINUTE", x.tracks(), 8);
            Checks.hear(x, 4, 7, 4, 7, 4, 7, 4, 7);
            due("six of a MINUTE", x.tracks(), 8);
            NoteBells y = Checks.shaft(APART + "pace " + pace + ";");
            Checks.hear(y, 4, at(3), 4, at(4));
            due("two LEVELS in a MINUTE", y.tracks(), 0);
        }
    }

    private void tracksAsFarAsPaceTimesMinutes() {
        checks.of("from one to the next as many LEVELS at most as PACE times the minutes between");
        for (int pace = 1; pace <= 4; pace++) {
            for (int minutes = 0; minutes <= 8; minutes++) {
                NoteBells x = Checks.shaft(APART + "pace " + pace + ";");
                for (int l = 0; l < 8; l++) {
                    x.forget();
                    Checks.hear(x, 10, at(0), 10 + minutes, at(l));
                    boolean near = l <= pace * minutes;
                    String way = l + " LEVELS in " + minutes + " minutes by PACE " + pace;
                    due(way + ", tracks()", x.tracks(), near ? 1 : 0);
                    due(way + ", where(0)", x.where(0), near ? 1 : 0);
                    due(way + ", where(1)", x.where(1), near ? 1 << l : 0);
                    due(way + ", men()", x.men(), near ? 1 : 2);
                    x.forget();
                    Checks.hear(x, 10, at(7), 10 + minutes, at(7 - l));
                    due(way + " up, tracks()", x.tracks(), near ? 1 : 0);
                    due(way + " up, where(1)", x.where(1), near ? 1 << 7 - l : 0);
                }
            }
        }
        NoteBells all = Checks.shaft("level 7 0 0;".repeat(8));
        Checks.hear(all, 0, 7, 99, 7);
        due("all the MINUTES between", all.tracks(), 64);
    }

    private void tracksFromEachToTheNext() {
        checks.of("TRACKS: from one to the next");
        NoteBells x = Checks.shaft(APART);
        Checks.hear(x, 0, at(0), 2, at(2), 4, at(0));
        due("down and up", x.tracks(), 1);
        Checks.hear(x, 5, at(2));
        due("two in a minute, though five in all would do", x.tracks(), 0);
        NoteBells y = Checks.shaft("level 7 0 0;".repeat(3));
        Checks.hear(y, 0, 7, 1, 7);
        due("three LEVELS, one step", y.tracks(), 7);
        Checks.hear(y, 2, 7);
        due("one step more", y.tracks(), 17);
        Checks.hear(y, 2, 7);
        due("a note of the same minute more", y.tracks(), 17);
        Checks.hear(y, 4, 7);
        due("two steps more", y.tracks(), 51);
        Checks.hear(y, 5, 8);
        due("a note from nowhere more", y.tracks(), 0);
    }

    private void tracksByEar() {
        checks.of("TRACKS: a LEVEL from which it can COME, by EAR");
        NoteBells x = Checks.shaft("level 30 0 0;level 33 0 0;level 34 0 0;ear 3;");
        int[][] wants = {{26, 0}, {27, 1}, {30, 2}, {31, 3}, {33, 3}, {34, 2}, {37, 1}, {38, 0}};
        for (int[] w : wants) {
            x.forget();
            x.heard(0, w[0]);
            due("tracks() of " + w[0], x.tracks(), w[1]);
        }
    }

    private void mostTracks() {
        checks.of("TRACKS of six notes from eight LEVELS");
        NoteBells x = Checks.shaft("level 7 0 0;".repeat(8) + "pace 4;");
        Checks.hear(x, 0, 7, 2, 7, 4, 7, 6, 7, 8, 7);
        due("five", x.tracks(), 32768);
        Checks.hear(x, 99, 7);
        due("six", x.tracks(), 262144);
        for (int k = 0; k < 6; k++) {
            due("where(" + k + ")", x.where(k), 255);
        }
    }

    private void whereInSomeOfThese() {
        checks.of("WHERE: LEVELS (bits) at which he can have been by a note in some of these");
        // The SOUND 7 is at 0, 3 and 7; 20 is at 1 and 6.
        NoteBells x = Checks.shaft("level 7 0 0;level 20 0 0;level 30 0 0;level 7 0 0;level 40 0 0;level 50 0 0;level 20 0 0;level 7 0 0;");
        Checks.hear(x, 0, 7);
        due("by one note", x.where(0), 0b10001001);
        Checks.hear(x, 1, 20);
        due("looked back on", x.where(0), 0b10000001);
        due("by the next", x.where(1), 0b01000010);
        Checks.hear(x, 2, 30);
        due("looked back on twice", x.where(0), 0b00000001);
        due("looked back on once", x.where(1), 0b00000010);
        due("by the last", x.where(2), 0b00000100);
        Checks.hear(x, 3, 7);
        due("the only LEVEL ahead", x.where(3), 0b00001000);
        x.forget();
        Checks.hear(x, 0, 40, 1, 7, 5, 20);
        due("from one side", x.where(1), 0b00001000);
        due("from the other", x.where(2), 0b01000010);
        x.forget();
        Checks.hear(x, 0, 20, 0, 20, 0, 20);
        due("no minutes between", x.where(1), 0b01000010);
    }

    private void whereByEachNote() {
        checks.of("where(k) (k from 0)");
        NoteBells x = Checks.shaft(APART);
        for (int k = 0; k < 6; k++) {
            due("ahead of note " + k, x.where(k), BAD);
            x.heard(7 * k, at(k + 1));
        }
        for (int k = 0; k < 6; k++) {
            due("where(" + k + ")", x.where(k), 2 << k);
        }
        due("where(6)", x.where(6), BAD);
        due("where(-1)", x.where(-1), BAD);
        NoteBells y = Checks.shaft("level 7 0 0;".repeat(8));
        y.heard(0, 7);
        due("all bits", y.where(0), 255);
        due("behind the last", y.where(1), BAD);
    }

    private void whereThereAreNoTracks() {
        checks.of("WHERE, if there are no TRACKS");
        NoteBells x = Checks.shaft(APART);
        Checks.hear(x, 0, at(0), 1, at(1), 2, at(3), 3, at(3));
        for (int k = 0; k < 4; k++) {
            due("where(" + k + ")", x.where(k), 0);
        }
        x.forget();
        Checks.hear(x, 0, at(0), 1, 99);
        due("from nowhere, where(0)", x.where(0), 0);
        due("from nowhere, where(1)", x.where(1), 0);
    }

    // ---- the fewest men

    private void menOfNoNotes() {
        checks.of("MEN (0: no notes.)");
        due("of a new object", new NoteBells().men(), 0);
        NoteBells x = Checks.shaft(APART + "man 0;man 1;man 2;");
        due("with three MEN", x.men(), 0);
        x.heard(0, 60);
        due("one note", x.men(), 1);
        x.forget();
        due("forgotten", x.men(), 0);
    }

    private void menUpToThree() {
        checks.of("MEN: the fewest men (up to three");
        men(APART, 1, 0, at(0));
        men(APART, 1, 0, at(0), 0, at(0), 0, at(0), 0, at(0), 0, at(0), 0, at(0));
        men(APART, 2, 0, at(0), 0, at(1));
        men(APART, 3, 0, at(0), 0, at(1), 0, at(2));
        men(APART, 3, 0, at(0), 0, at(1), 0, at(7), 0, at(0), 0, at(1), 0, at(7));
        men(APART, 3, 0, at(0), 0, at(3), 0, at(6), 1, at(1), 1, at(4), 1, at(7));
    }

    private void menHoweverManyStand() {
        checks.of("MEN: up to three, however many MEN stand in the shaft");
        for (int n = 0; n <= 3; n++) {
            String shaft = APART + "man 5;".repeat(n);
            men(shaft, 1, 0, at(0));
            men(shaft, 2, 0, at(0), 0, at(1));
            men(shaft, 3, 0, at(0), 0, at(1), 0, at(2));
            men(shaft, NONE, 0, at(0), 0, at(1), 0, at(2), 0, at(3));
        }
    }

    private void menByTheNotesThatAreHis() {
        checks.of("MEN: each as told for one man, by the notes that are his");
        // Each man has all the minutes between his own notes.
        men(APART, 2, 0, at(0), 0, at(4), 3, at(7), 4, at(4));
        men(APART, 2, 0, at(0), 0, at(4), 3, at(7), 3, at(3));
        men(APART, 3, 0, at(0), 0, at(4), 3, at(7), 3, at(4));
        men(APART, 1, 0, at(0), 7, at(7));
        men(APART, 2, 0, at(0), 6, at(7));
        men(APART + "pace 4;", 1, 0, at(0), 1, at(4), 2, at(0));
        men(APART + "pace 4;", 2, 0, at(0), 1, at(5), 2, at(0));
    }

    private void menAreTheFewest() {
        checks.of("MEN: the fewest men by whom all notes can have been plucked");
        // Either of the two could take the third note, but only one of them leaves the fourth to the other.
        men(APART, 2, 0, at(0), 0, at(4), 2, at(2), 3, at(4));
        men(APART, 2, 0, at(0), 0, at(4), 2, at(2), 3, at(0));
        // The first could have taken the third note, but goes the other way.
        men(APART, 2, 0, at(3), 0, at(7), 2, at(5), 2, at(1));
        men(APART, 2, 0, at(4), 0, at(0), 2, at(2), 2, at(6));
        men(APART, 3, 0, at(3), 0, at(7), 0, at(0), 2, at(5), 2, at(1), 2, at(2));
        // The nearer man is the wrong one.
        men(APART, 2, 0, at(3), 0, at(7), 4, at(4), 5, at(2), 5, at(5));
        // A note that can come from two LEVELS: the one or the other, as the next asks it.
        String twice = "level 50 0 0;level 40 0 0;level 30 0 0;level 20 0 0;level 50 0 0;level 10 0 0;";
        men(twice, 1, 0, 50, 1, 10);
        men(twice, 1, 0, 50, 1, 40);
        men(twice, 1, 0, 40, 1, 50, 5, 50, 6, 10);
        men(twice, 2, 0, 50, 1, 10, 1, 40);
    }

    private void echoJust2MinutesAhead() {
        checks.of("an ECHO: of an earlier one, just 2 minutes ahead of it");
        men(ECHOING, 1, 0, at(0), 2, at(0), 2, at(2));
        men(ECHOING, 2, 0, at(0), 1, at(0), 1, at(1));
        men(ECHOING, 2, 0, at(0), 3, at(0), 3, at(3));
        men(ECHOING, 2, 0, at(0), 4, at(0), 4, at(4));
        men(ECHOING, 2, 0, at(0), 0, at(0), 0, at(1));
        men(ECHOING, 1, 97, at(0), 99, at(0), 99, at(2));
        men(ECHOING, 2, 98, at(0), 99, at(0), 99, at(1));
        men(ECHOING, 1, 5, at(6), 7, at(6), 7, at(4));
    }

    private void echoOfAnEarlierOne() {
        checks.of("an ECHO: of an earlier one in THE BOOK");
        // Not the one just ahead alone.
        men(ECHOING, 1, 0, at(0), 1, at(1), 2, at(2), 2, at(0));
        men(ECHOING, 1, 0, at(0), 1, at(1), 2, at(0), 2, at(2));
        men(ECHOING, 2, 0, at(0), 0, at(5), 1, at(1), 2, at(3), 2, at(0), 2, at(2));
        // An ECHO is not heard ahead of its note.
        men(ECHOING, 2, 0, at(0), 0, at(2), 2, at(0));
        // Not of a note from another LEVEL that has an ECHO.
        men(ECHOING, 2, 0, at(0), 2, at(6), 2, at(2));
    }

    private void echoOfAnEcho() {
        checks.of("an ECHO: of one that is not an ECHO itself");
        men(ECHOING, 2, 0, at(0), 2, at(0), 4, at(0), 4, at(3));
        // Here he can have plucked the second, too.
        men(ECHOING, 1, 0, at(0), 2, at(0), 4, at(0), 4, at(2));
        men(ECHOING, 2, 0, at(0), 2, at(0), 2, at(2), 4, at(0), 4, at(4));
        // Another plucked the second, and the third is the ECHO of that.
        men(ECHOING, 2, 0, at(0), 2, at(0), 2, at(2), 4, at(0), 4, at(2));
    }

    private void echoFromALevelWithAnEcho() {
        checks.of("an ECHO: of one that can have COME from a LEVEL with an ECHO");
        men(APART, 2, 0, at(0), 2, at(0), 2, at(2));
        men(ECHOING, 2, 0, at(1), 2, at(1), 2, at(3));
        men(ECHOING, 2, 0, at(7), 2, at(7), 2, at(5));
        men(ECHOING, 1, 0, at(6), 2, at(6), 2, at(4));
        men("level 60 0 0;level 52 0 0;level 60 0 1;", 1, 0, 60, 2, 60, 2, 52);
        men("level 60 0 1;level 52 0 0;level 60 0 0;", 1, 0, 60, 2, 60, 2, 52);
        men("level 60 0 0;level 52 0 1;level 60 0 0;", 2, 0, 60, 2, 60, 2, 52);
    }

    private void echoFromWhichTheLaterCanCome() {
        checks.of("an ECHO: from a LEVEL from which the later one can COME, too");
        String shaft = "level 50 0 1;level 45 0 0;level 30 0 0;ear 2;";
        men(shaft, 1, 0, 48, 2, 52, 2, 30);
        men(shaft, 1, 0, 52, 2, 48, 2, 30);
        men(shaft, NONE, 0, 48, 2, 53, 2, 30);
        // 47 comes from the next LEVEL alone.
        men(shaft, 2, 0, 48, 2, 47, 2, 30);
        men(shaft, 2, 0, 47, 2, 48, 2, 30);
        // 60 is no LEVEL's of this shaft: no ECHO of a note near to it either.
        men("level 50 0 1;", NONE, 0, 50, 2, 60);
    }

    private void echoAsItWasPlucked() {
        checks.of("an ECHO: of one that can have COME (as it was plucked) from a LEVEL with an ECHO");
        // The note 50 comes from 0, with an ECHO, and from 4, with none.
        String shaft = "level 50 0 1;level 40 0 0;level 30 0 0;level 20 0 0;level 50 0 0;";
        men(shaft, 1, 0, 40, 1, 50, 3, 50, 3, 30);
        men(shaft, 2, 0, 20, 1, 50, 3, 50, 3, 30);
        // Where he plucked it is known by a later note alone.
        men(shaft, 1, 0, 50, 1, 40, 2, 50, 2, 30);
        men(shaft, 2, 0, 50, 1, 20, 2, 50, 2, 30);
    }

    private void echoesOfOneNote() {
        checks.of("a note may be an ECHO: two of one note, as it was plucked");
        men(ECHOING, 1, 0, at(0), 2, at(0), 2, at(0), 2, at(2));
        // 51 comes from both LEVELS, 48 from the one and 55 from the other alone: not both are ECHOES of one 51.
        String both = "level 50 0 1;level 53 0 1;level 40 0 0;ear 2;";
        men(both, 1, 0, 51, 2, 48, 2, 48, 2, 40);
        men(both, 1, 0, 51, 2, 55, 2, 40);
        men(both, 2, 0, 51, 2, 48, 2, 55, 2, 40);
        // Two notes, an ECHO of each.
        men(both, 2, 0, 48, 0, 55, 2, 48, 2, 55, 2, 40);
    }

    private void noneFromNowhere() {
        checks.of("NONE: a note can neither COME from any LEVEL nor be an ECHO");
        men("", NONE, 0, 0);
        men(APART, NONE, 0, 61);
        men(APART, NONE, 0, -99);
        men(APART, NONE, 0, at(0), 5, at(1), 9, 59);
        men(APART, NONE, 0, 59, 5, at(0));
        men(ECHOING, NONE, 0, at(0), 2, 61);
        men(APART + "wet 9;", NONE, 0, 60);
        men(APART + "wet 9;", 1, 0, 56);
    }

    private void noneIfThreeAreTooFew() {
        checks.of("NONE: three men are too few");
        men(APART, NONE, 0, at(0), 0, at(1), 0, at(2), 0, at(3));
        men(APART, 3, 0, at(0), 0, at(1), 0, at(2), 1, at(3));
        men(APART, NONE, 0, at(0), 0, at(1), 0, at(2), 1, at(4));
        men(APART, NONE, 0, at(0), 0, at(1), 9, at(0), 9, at(1), 9, at(2), 9, at(3));
        men(APART, NONE, 9, at(0), 9, at(1), 9, at(2), 9, at(3), 9, at(4), 9, at(5));
        // A fourth that is an ECHO is no fourth man's.
        men(ECHOING, 3, 0, at(0), 2, at(0), 2, at(2), 2, at(6), 2, at(7));
        men(ECHOING, NONE, 1, at(0), 2, at(0), 2, at(2), 2, at(6), 2, at(7));
    }

    private void silenceIsNotAsked() {
        checks.of("(Nothing is changed; SILENCE is not asked.)");
        NoteBells x = Checks.shaft(ECHOING + "man 3;");
        Checks.hear(x, 0, at(0), 2, at(0), 2, at(2));
        x.falls(0);
        due("men()", x.men(), 1);
        due("tracks()", x.tracks(), 0);
        x.forget();
        Checks.hear(x, 0, at(0), 2, at(2));
        due("tracks() again", x.tracks(), 1);
        due("where(1)", x.where(1), 4);
        due("man(0)", x.man(0), 3);
        due("mends()", x.mends(), 8);
        due("count(5)", x.count(5), 2);
    }

    private void theBookIsAskedAsItIsNow() {
        checks.of("a LEVEL from which it can COME: as wet and worn as it is");
        NoteBells x = Checks.shaft("level 20 1 0;level 20 0 0;");
        Checks.hear(x, 0, 20, 0, 20);
        due("tracks()", x.tracks(), 2);
        x.year();
        due("tracks() a YEAR on", x.tracks(), 1);
        due("where(0) a YEAR on", x.where(0), 2);
        x.wet(1);
        due("tracks() in WET 1", x.tracks(), 0);
        due("men() in WET 1", x.men(), NONE);
        x.wet(0);
        due("men() in WET 0", x.men(), 1);
    }
}
