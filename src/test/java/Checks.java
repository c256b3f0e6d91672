/** What the tests share: counting wrong answers, typing texts, and filling the book and the hymn. */
final class Checks {
    private static final int TOLD_OF_A_SENTENCE = 20;

    private int asked;
    private int wrong;
    private int wrongOfSentence;
    private String sentence = "";

    /** The sentence of the document against which the next answers are held: it is told with each wrong one. */
    void of(String words) {
        sentence = words + ": ";
        wrongOfSentence = 0;
    }

    void due(String call, long got, long want) {
        asked++;
        if (got != want) {
            wrong++;
            wrongOfSentence++;
            if (wrongOfSentence <= TOLD_OF_A_SENTENCE) {
                System.out.println(sentence + call + " answered " + got + ", due is " + want);
            }
        }
    }

    void isTrue(String what, boolean holds) {
        due(what, holds ? 1 : 0, 1);
    }

    /** How many answers were held against what is due: tests count the calls of an object by it. */
    int asked() {
        return asked;
    }

    /** Tells what was wrong and ends with exit code 1 if there was any. */
    void end() {
        System.out.println(asked + " answers, " + wrong + " of them not as due");
        if (wrong != 0 || asked == 0) {
            System.exit(1);
        }
    }

    static void type(NoteBells x, String text) {
        for (int at = 0; at < text.length(); at += 8) {
            int n = Math.min(8, text.length() - at);
            long v = 0;
            for (int i = 0; i < n; i++) {
                v = v << 8 | text.charAt(at + i) & 255;
            }
            x.type(v, n);
        }
    }

    static NoteBells shaft(String text) {
        NoteBells x = new NoteBells();
        type(x, text);
        int items = x.shaft();
        if (items < 0) {
            throw new IllegalArgumentException("fault at " + (-10 - items) + " of: " + text);
        }
        return x;
    }

    static void hear(NoteBells x, int... minutesAndNotes) {
        for (int i = 0; i + 1 < minutesAndNotes.length; i += 2) {
            x.heard(minutesAndNotes[i], minutesAndNotes[i + 1]);
        }
    }

    static void sing(NoteBells x, int... notes) {
        for (int note : notes) {
            x.sing(note);
        }
    }
}
