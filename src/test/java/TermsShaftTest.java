/** "Terms" ahead of "======== 2", a test for each sentence: what a text may tell, and the place of each FAULT. */
final class TermsShaftTest {
    private static final int NO = -1000000, FULL = -3;
    private static final String LEVEL = "level 1 1 1;";

    private final Checks checks = new Checks();

    public static void main(String[] args) {
        TermsShaftTest t = new TermsShaftTest();
        t.levelsAre8AtMost();
        t.level0IsTheHighest();
        t.pitchIs0To60();
        t.wearIs0To9();
        t.echoIs1OrNone();
        t.earIs0To9();
        t.wetIs0To9();
        t.paceIs1To4();
        t.menAre3AtMost();
        t.textIs200BytesAtMost();
        t.blanksAreByte32Alone();
        t.blanksStandWhereTheyMay();
        t.blanksAreNotNeeded();
        t.itemsMayBeNone();
        t.itemsEndBySemicolon();
        t.aMansLevelWasTold();
        t.earWetPaceOnceEach();
        t.wordsAreOfAToZ();
        t.numbersEndWhereOthersBegin();
        t.faultOfANinthLevel();
        t.faultOfAFourthMan();
        t.faultOfANumberBeyond();
        t.faultOfATokenThatCannotStandThere();
        t.faultOfAByteThatBeginsNone();
        t.faultOfAWordThatIsNone();
        t.faultOfANumberAbove99();
        t.faultOfA0AheadOfOthers();
        t.faultOfATextThatEndsTooEarly();
        t.faultIsTheFirstOne();
        t.faultAtTheFirstAndTheLastByte();
        t.checks.end();
    }

    private void due(String call, long got, long want) {
        checks.due(call, got, want);
    }

    /** A new object that has read a text: so many items are due, and no text is left. */
    private NoteBells told(String text, int items) {
        NoteBells x = new NoteBells();
        Checks.type(x, text);
        due("shaft() of '" + text + "'", x.shaft(), items);
        due("count(8) behind '" + text + "'", x.count(8), 0);
        return x;
    }

    /** The text is refused at a place, and stays. */
    private void fault(String text, int place) {
        NoteBells x = new NoteBells();
        Checks.type(x, text);
        due("shaft() of '" + text + "'", x.shaft(), -10 - place);
        due("count(8) behind '" + text + "'", x.count(8), text.length());
    }

    // ---- what may be told

    private void levelsAre8AtMost() {
        checks.of("LEVELS 0 .. (8 at most");
        for (int n = 0; n <= 8; n++) {
            NoteBells x = told(LEVEL.repeat(n), n);
            due("count(0) of " + n, x.count(0), n);
            due("the last of " + n, x.level(n - 1, 0), n == 0 ? NO : 1);
            due("one behind the last of " + n, x.level(n, 0), NO);
        }
    }

    private void level0IsTheHighest() {
        checks.of("LEVELS 0 .. (8 at most; 0 the highest)");
        NoteBells x = told("level 10 0 0;level 11 1 1;level 12 2 0;level 13 3 1;level 14 4 0;level 15 5 1;level 16 6 0;level 17 7 1;", 8);
        for (int l = 0; l < 8; l++) {
            due("PITCH of " + l, x.level(l, 0), 10 + l);
            due("WEAR of " + l, x.level(l, 1), l);
            due("ECHO of " + l, x.level(l, 2), l % 2);
        }
        due("the lowest alone is SILENT", x.falls(7), 1);
        due("all from the highest down are SILENT", x.falls(0), 8);
    }

    private void pitchIs0To60() {
        checks.of("a PITCH (0 .. 60)");
        due("0", told("level 0 5 1;", 1).level(0, 0), 0);
        due("60", told("level 60 5 1;", 1).level(0, 0), 60);
        due("9", told("level 9 5 1;", 1).level(0, 0), 9);
        due("10", told("level 10 5 1;", 1).level(0, 0), 10);
        fault("level 61 5 1;", 6);
        fault("level 99 5 1;", 6);
        fault("level 100 5 1;", 6);
        fault("level -1 5 1;", 6);
    }

    private void wearIs0To9() {
        checks.of("WEAR (0 .. 9)");
        due("0", told("level 50 0 1;", 1).level(0, 1), 0);
        due("9", told("level 50 9 1;", 1).level(0, 1), 9);
        fault("level 50 10 1;", 9);
        fault("level 50 99 1;", 9);
        fault("level 50 -1 1;", 9);
    }

    private void echoIs1OrNone() {
        checks.of("an ECHO or none (1, 0)");
        due("none", told("level 50 5 0;", 1).level(0, 2), 0);
        due("an ECHO", told("level 50 5 1;", 1).level(0, 2), 1);
        fault("level 50 5 2;", 11);
        fault("level 50 5 9;", 11);
        fault("level 50 5 10;", 11);
        fault("level 50 5 -1;", 11);
        for (int echo = 0; echo <= 1; echo++) {
            NoteBells x = told("level 50 0 " + echo + ";level 40 0 0;", 2);
            Checks.hear(x, 0, 50, 2, 50, 2, 40);
            due("men() with an ECHO of " + echo, x.men(), 2 - echo);
        }
    }

    private void earIs0To9() {
        checks.of("EAR (0 .. 9; 0 at first)");
        due("at first", new NoteBells().count(2), 0);
        due("not told", told("wet 1;pace 2;", 2).count(2), 0);
        due("0", told("ear 0;", 1).count(2), 0);
        due("9", told("ear 9;", 1).count(2), 9);
        fault("ear 10;", 4);
        fault("ear -1;", 4);
    }

    private void wetIs0To9() {
        checks.of("WET (0 .. 9; 0 at first)");
        due("at first", new NoteBells().count(3), 0);
        due("not told", told("ear 1;pace 2;", 2).count(3), 0);
        due("0", told("wet 0;", 1).count(3), 0);
        due("9", told("wet 9;", 1).count(3), 9);
        fault("wet 10;", 4);
        fault("wet -1;", 4);
    }

    private void paceIs1To4() {
        checks.of("PACE (1 .. 4; 1 at first)");
        due("at first", new NoteBells().count(4), 1);
        due("not told", told("ear 2;wet 3;", 2).count(4), 1);
        due("1", told("pace 1;", 1).count(4), 1);
        due("4", told("pace 4;", 1).count(4), 4);
        fault("pace 0;", 5);
        fault("pace 5;", 5);
        fault("pace -1;", 5);
    }

    private void menAre3AtMost() {
        checks.of("MEN 0 .. (3 at most) stand at LEVELS");
        for (int n = 0; n <= 3; n++) {
            NoteBells x = told(LEVEL + LEVEL + "man 1;".repeat(n), 2 + n);
            due("count(1) of " + n, x.count(1), n);
            due("the last of " + n, x.man(n - 1), n == 0 ? -1 : 1);
            due("one behind the last of " + n, x.man(n), -1);
        }
        NoteBells x = told(LEVEL.repeat(8) + "man 7;man 0;man 3;", 11);
        due("man(0)", x.man(0), 7);
        due("man(1)", x.man(1), 0);
        due("man(2)", x.man(2), 3);
    }

    private void textIs200BytesAtMost() {
        checks.of("They are a text (200 bytes at most)");
        due("200 bytes", told(" ".repeat(194) + "ear 7;", 1).count(2), 7);
        due("200 bytes, blanks behind", told("ear 7;" + " ".repeat(194), 1).count(2), 7);
        told(" ".repeat(200), 0);
        NoteBells x = new NoteBells();
        Checks.type(x, " ".repeat(192));
        due("193 .. 199", x.type(0x20656172203420L, 7), 199);
        due("two more", x.type(0x3B20, 2), FULL);
        due("eight more", x.type(0x3B20, 8), FULL);
        due("the 200th", x.type(0x3B, 1), 200);
        due("the 201st", x.type(0x20, 1), FULL);
        due("shaft()", x.shaft(), 1);
        due("EAR", x.count(2), 4);
    }

    private void blanksAreByte32Alone() {
        checks.of("blanks (32) ahead of, between and behind TOKENS");
        for (int b = 0; b < 256; b++) {
            char sign = (char) b;
            boolean blank = b == 32;
            int ahead = shaftOf(sign + "ear 1;");
            due("byte " + b + " ahead of all", ahead, blank ? 1 : -10);
            int behind = shaftOf("ear 1;" + sign);
            due("byte " + b + " behind all", behind, blank ? 1 : -16);
            boolean letter = b >= 'a' && b <= 'z';
            boolean digit = b >= '0' && b <= '9';
            due("byte " + b + " behind a word", shaftOf("ear" + sign + "1;"), blank ? 1 : letter ? -10 : -13);
            due("byte " + b + " behind a NUMBER", shaftOf("ear 1" + sign + ";"), blank ? 1 : digit ? -14 : b == ';' ? -16 : -15);
            due("byte " + b + " where a NUMBER is due", shaftOf("ear " + sign + ";"), digit ? 1 : blank ? -15 : -14);
        }
    }

    private static int shaftOf(String text) {
        NoteBells x = new NoteBells();
        Checks.type(x, text);
        return x.shaft();
    }

    private void blanksStandWhereTheyMay() {
        checks.of("blanks (32) ahead of, between and behind TOKENS as may be");
        told("   level   60   9   1   ;   man   0   ;   ear   9   ;   wet   9   ;   pace   4   ;   ", 5);
        told("level 60 9 1 ;", 1);
        told("ear" + " ".repeat(100) + "3" + " ".repeat(95) + ";", 1);
        fault("le vel 60 9 1;", 0);
        fault("level 6 0 9 1;", 10);
        fault("ear 1 0;", 6);
    }

    private void blanksAreNotNeeded() {
        checks.of("(none needed where TOKENS end without)");
        NoteBells x = told("level60 9 1;man0;ear9;wet8;pace4;", 5);
        due("PITCH", x.level(0, 0), 60);
        due("MEN", x.count(1), 1);
        due("EAR", x.count(2), 9);
        due("WET", x.count(3), 8);
        due("PACE", x.count(4), 4);
        // Two NUMBERS, or two words, don't end without a blank between.
        fault("level609 1;", 5);
        fault("level60 91;", 8);
        fault("levelear 1;", 0);
    }

    private void itemsMayBeNone() {
        checks.of("ITEMS (none, too)");
        NoteBells x = told("", 0);
        due("LEVELS", x.count(0), 0);
        told(" ", 0);
        due("again", x.shaft(), 0);
    }

    private void itemsEndBySemicolon() {
        checks.of("ITEMS, each ended by ;");
        told(LEVEL, 1);
        told(LEVEL + "man 0;ear 1;wet 1;pace 1;", 5);
        fault(";", 0);
        fault(LEVEL + ";", 12);
        fault("ear 1;;", 6);
        fault("level 1 1 1 ear 1;", 12);
        fault(LEVEL + "man 0 ear 1;", 18);
        fault("ear 1 wet 1;", 6);
        fault("wet 1 pace 1;", 6);
        fault("pace 1 ear 1;", 7);
        fault("ear 1:", 5);
        fault("ear 1,", 5);
    }

    private void aMansLevelWasTold() {
        checks.of("man L (a LEVEL that was told)");
        due("of one", told(LEVEL + "man 0;", 2).man(0), 0);
        fault(LEVEL + "man 1;", 16);
        due("the last of eight", told(LEVEL.repeat(8) + "man 7;", 9).man(0), 7);
        fault(LEVEL.repeat(8) + "man 8;", 100);
        fault(LEVEL.repeat(8) + "man 99;", 100);
        fault("man 0;", 4);
        fault("man 0;" + LEVEL, 4);
        fault(LEVEL + "man 1;" + LEVEL, 16);
        due("between LEVELS", told(LEVEL + "man 0;" + LEVEL + "man 1;", 4).man(1), 1);
    }

    private void earWetPaceOnceEach() {
        checks.of("ear N, wet N, pace N (once each at most)");
        told("ear 1;wet 1;pace 1;", 3);
        told("pace 1;wet 1;ear 1;", 3);
        fault("ear 1;ear 1;", 6);
        fault("wet 1;wet 1;", 6);
        fault("pace 1;pace 1;", 7);
        // What was told as at first was told all the same.
        fault("ear 0;ear 0;", 6);
        fault("wet 0;wet 0;", 6);
        fault("ear 0;wet 0;pace 1;wet 0;", 19);
        fault("ear 0;wet 0;pace 1;pace 1;", 19);
        fault("ear 0;wet 0;pace 1;ear 0;", 19);
        NoteBells x = told("ear 1;wet 2;pace 3;", 3);
        Checks.type(x, "ear 4;wet 5;pace 4;ear 4;");
        due("a FAULT", x.shaft(), -29);
        x.clear();
        Checks.type(x, "ear 4;wet 5;pace 4;");
        due("once in another text", x.shaft(), 3);
        due("EAR", x.count(2), 4);
        due("WET", x.count(3), 5);
        due("PACE", x.count(4), 4);
    }

    // ---- tokens

    private void wordsAreOfAToZ() {
        checks.of("TOKENS are words of letters a .. z");
        fault("ear`1;", 3);
        fault("ear{1;", 3);
        fault("eara 1;", 0);
        fault("earz 1;", 0);
        fault("aear 1;", 0);
        fault("zear 1;", 0);
        fault("`ear 1;", 0);
        fault("{ear 1;", 0);
        fault("Ear 1;", 0);
        fault("eaR 1;", 0);
        fault("ear@1;", 3);
    }

    private void numbersEndWhereOthersBegin() {
        checks.of("TOKENS are NUMBERS and ;");
        fault("ear 1/;", 5);
        fault("ear 1:;", 5);
        fault("ear 1<", 5);
        fault("ear /;", 4);
        fault("ear :;", 4);
        fault("ear 1wet 1;", 5);
        fault("ear 1.0;", 5);
        fault("ear +1;", 4);
        for (int n = 0; n <= 9; n++) {
            due("ear " + n, told("ear " + n + ";", 1).count(2), n);
        }
        for (int n = 0; n <= 60; n++) {
            due("level " + n, told("level" + n + " 0 0;", 1).level(0, 0), n);
        }
    }

    // ---- the place of each FAULT

    private void faultOfANinthLevel() {
        checks.of("FAULT: a ninth level");
        fault(LEVEL.repeat(9), 96);
        fault(LEVEL.repeat(8) + "  level 1 1 1;", 98);
        fault(LEVEL.repeat(8) + "level", 96);
        fault(LEVEL.repeat(8) + "level 99 99 99", 96);
        fault(LEVEL.repeat(8) + "ear 1;level", 102);
    }

    private void faultOfAFourthMan() {
        checks.of("FAULT: a fourth man");
        fault(LEVEL + "man 0;".repeat(4), 30);
        fault(LEVEL + "man 0;".repeat(3) + "man", 30);
        fault(LEVEL + "man 0;".repeat(3) + "  man 99", 32);
        fault(LEVEL + "man 0;".repeat(3) + LEVEL + "man 1;", 42);
    }

    private void faultOfANumberBeyond() {
        checks.of("FAULT: a NUMBER beyond what it may be");
        fault("level 61", 6);
        fault("level 60 10", 9);
        fault("level 60 9 2", 11);
        fault(LEVEL + "man 1", 16);
        fault("ear 10", 4);
        fault("wet 10", 4);
        fault("pace 0", 5);
        fault("pace 5", 5);
        fault("pace  99;", 6);
    }

    private void faultOfATokenThatCannotStandThere() {
        checks.of("FAULT: the place of the first byte of the first TOKEN that can't stand there");
        fault("level ;", 6);
        fault("level man", 6);
        fault("level 1 ;", 8);
        fault("level 1 level 1;", 8);
        fault("level 1 1;", 9);
        fault("level 1 1 ear;", 10);
        fault("level 1 1 1 1;", 12);
        fault("level 1 1 1 man 0;", 12);
        fault(LEVEL + "man;", 15);
        fault(LEVEL + "man man 0;", 16);
        fault(LEVEL + "man 0 0;", 18);
        fault("ear;", 3);
        fault("ear ear 1;", 4);
        fault("wet;", 3);
        fault("wet pace", 4);
        fault("pace;", 4);
        fault("pace 1 1;", 7);
        fault("0;", 0);
        fault("ear 1;7 8", 6);
        fault("ear 1; ;", 7);
    }

    private void faultOfAByteThatBeginsNone() {
        checks.of("FAULT: of a byte that begins none, that TOKEN's");
        fault("\0", 0);
        fault("  \t", 2);
        fault("ear\n1;", 3);
        fault("ear 1;!", 6);
        fault("ear \u007f1;", 4);
        fault("ear 1\u00a0;", 5);
        fault("\u00ff", 0);
        fault("ear 1;\u0080", 6);
        fault("level 1 1 #", 10);
        // A byte whose lowest seven bits are those of a letter, a digit or a blank begins none either.
        fault("\u00e5ar 1;", 0);
        fault("ear \u00b1;", 4);
        fault("ear 1\u00bb", 5);
    }

    private void faultOfAWordThatIsNone() {
        checks.of("FAULT: of a word that is none of these, that TOKEN's");
        String[] words = {"level", "man", "ear", "wet", "pace"};
        for (String word : words) {
            for (int i = 1; i < word.length(); i++) {
                fault("  " + word.substring(0, i) + " 1;", 2);
                fault(" " + word.substring(i) + " 1;", 1);
            }
            for (int i = 0; i < word.length(); i++) {
                fault(word.substring(0, i) + 'x' + word.substring(i + 1) + " 1;", 0);
                fault(word.substring(0, i) + 'x' + word.substring(i) + " 1;", 0);
            }
            fault(word + "s 1;", 0);
            fault(word.toUpperCase() + " 1;", 0);
        }
        // Also where no word can stand, and as the text's last.
        fault("ear one;", 4);
        fault("ear 1;x", 6);
        fault("ear 1;mann", 6);
    }

    private void faultOfANumberAbove99() {
        checks.of("FAULT: of a NUMBER above 99, that TOKEN's");
        String[] numbers = {"100", "101", "109", "256", "257", "999", "1000", "65536", "65537", "2147483647", "2147483648",
            "4294967295", "4294967296", "4294967297", "9223372036854775808", "18446744073709551617", "1".repeat(60)};
        for (String number : numbers) {
            fault("ear " + number + ";", 4);
            fault("pace  " + number, 6);
            fault("level 5 " + number + " 1;", 8);
            fault(LEVEL + LEVEL + "man " + number + ";", 28);
            fault(number + ";", 0);
        }
    }

    private void faultOfA0AheadOfOthers() {
        checks.of("FAULT: of a NUMBER with a 0 ahead of others, that TOKEN's");
        String[] numbers = {"00", "01", "05", "09", "000", "001", "010", "00000000000000000001"};
        for (String number : numbers) {
            fault("ear " + number + ";", 4);
            fault("pace " + number, 5);
            fault("level " + number + " 1 1;", 6);
            fault("level 1 1 " + number + ";", 10);
        }
        due("a 0 behind", told("level 10 0 0;", 1).level(0, 0), 10);
        due("a 0 alone", told("level 0 0 0;", 1).level(0, 0), 0);
    }

    private void faultOfATextThatEndsTooEarly() {
        checks.of("FAULT: the text's length, if it ends too early");
        String[] early = {"level", "level 1", "level 1 1", "level 1 1 1", LEVEL + "man", LEVEL + "man 0", "ear", "ear 1", "wet", "wet 9", "pace", "pace 4"};
        for (String text : early) {
            fault(text, text.length());
            fault(text + " ", text.length() + 1);
            fault(text + "     ", text.length() + 5);
            fault(LEVEL + text, 12 + text.length());
            fault(text + " ".repeat(200 - text.length()), 200);
            fault(" ".repeat(200 - text.length()) + text, 200);
        }
        // A word that is none of these ends nothing too early.
        fault("leve", 0);
        fault("ear 1;pac", 6);
        // What was typed ahead of clear() is not read on.
        NoteBells x = new NoteBells();
        Checks.type(x, "ear 12;");
        x.clear();
        Checks.type(x, "ear 1");
        due("shaft() of a text that was longer", x.shaft(), -15);
        x.clear();
        Checks.type(x, "ea");
        due("shaft() of a word that was longer", x.shaft(), -10);
    }

    private void faultIsTheFirstOne() {
        checks.of("FAULT: the first TOKEN that can't stand there");
        fault("ear 1;ear 2;wet 10;", 6);
        fault("ear 10;ear 2;!", 4);
        fault("level 61 10 2 x", 6);
        fault("level 60 10 2 x", 9);
        fault("level 60 9 2 x", 11);
        fault("level 60 9 1 x", 13);
        fault("x ! 100", 0);
        fault("! x 100", 0);
        fault("100 x !", 0);
        fault("ear 1;man 0;levels", 10);
    }

    private void faultAtTheFirstAndTheLastByte() {
        checks.of("-10 less FAULT");
        fault("!" + " ".repeat(199), 0);
        fault(" ".repeat(199) + "!", 199);
        fault(" ".repeat(199) + ";", 199);
        fault(" ".repeat(199) + "7", 199);
        fault(" ".repeat(199) + "e", 199);
        fault(" ".repeat(195) + "ear 1", 200);
        fault(";".repeat(200), 0);
        fault("7 ".repeat(100), 0);
        fault("a".repeat(200), 0);
        fault("7".repeat(200), 0);
    }
}
