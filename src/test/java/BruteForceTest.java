import java.util.ArrayList;
import java.util.List;
import java.util.Random;

/** Random runs against a plain model that tries every way. */
final class BruteForceTest {
    private final Checks checks = new Checks();
    private final Random random = new Random(20261119);

    public static void main(String[] args) {
        BruteForceTest t = new BruteForceTest();
        for (int round = 0; round < 4000; round++) {
            t.oneRun(round);
        }
        for (int round = 0; round < 4000; round++) {
            t.oneText();
        }
        t.checks.end();
    }

    // ---- one run of calls

    private void oneRun(int round) {
        Model m = randomModel(round % 3);
        NoteBells x = Checks.shaft(m.text());
        Model[] kept = new Model[2];
        int before = checks.asked();
        // A step makes 140 calls at most, and 25 more where a text is read: an object is used for 512 calls at most.
        for (int step = 0; step < 40 && checks.asked() - before < 300; step++) {
            for (int i = random.nextInt(6); i >= 0; i--) {
                change(x, m);
            }
            m = keepOrBack(x, m, kept);
            if (step == 4 && random.nextInt(3) == 0) {
                m = randomModel(random.nextInt(3));
                kept = new Model[2];
                Checks.type(x, m.text());
                checks.due("shaft", x.shaft(), m.pitch.size() + m.at.size() + 3);
            }
            ask(x, m, "round " + round + " step " + step + " (" + m.text() + ") ");
        }
    }

    private Model keepOrBack(NoteBells x, Model m, Model[] kept) {
        int which = random.nextInt(12);
        int image = random.nextInt(4) - 1;
        boolean bad = image < 0 || image > 1;
        if (which == 0) {
            checks.due("keep", x.keep(image), bad ? -1 : m.year);
            if (!bad) {
                kept[image] = m.copy();
            }
        } else if (which < 3) {
            checks.due("back", x.back(image), bad ? -1 : kept[image] == null ? -2 : kept[image].year);
            if (!bad && kept[image] != null) {
                return kept[image].copy();
            }
        }
        return m;
    }

    private Model randomModel(int style) {
        Model m = new Model();
        int levels = style == 0 ? random.nextInt(9) : 1 + random.nextInt(5);
        int pitches = style == 1 ? 12 : 61;
        for (int l = 0; l < levels; l++) {
            m.pitch.add(random.nextInt(pitches));
            m.wear.add(random.nextInt(10));
            m.echo.add(random.nextInt(2));
        }
        int men = levels == 0 ? 0 : random.nextInt(4);
        for (int i = 0; i < men; i++) {
            m.at.add(random.nextInt(levels));
        }
        m.ear = random.nextInt(style == 1 ? 4 : 10);
        m.wet = random.nextInt(10);
        m.pace = 1 + random.nextInt(4);
        return m;
    }

    private void change(NoteBells x, Model m) {
        int levels = m.pitch.size();
        switch (random.nextInt(12)) {
            case 0:
                int w = random.nextInt(12) - 1;
                checks.due("wet", x.wet(w), w < 0 || w > 9 ? -1 : m.wet);
                m.wet = w < 0 || w > 9 ? m.wet : w;
                break;
            case 1:
                m.year++;
                for (int l = 0; l < levels; l++) {
                    m.pitch.set(l, Math.max(0, m.pitch.get(l) - m.wear.get(l)));
                }
                checks.due("year", x.year(), m.year);
                break;
            case 2:
                climb(x, m);
                break;
            case 3:
                checks.due("forget", x.forget(), m.book.size());
                m.book.clear();
                break;
            case 4:
                checks.due("hush", x.hush(), m.hymn.size());
                m.hymn.clear();
                break;
            case 5:
            case 6:
            case 7:
                int note = likelyNote(m);
                checks.due("sing", x.sing(note), m.hymn.size() >= 8 ? -3 : m.hymn.size() + 1);
                if (m.hymn.size() < 8) {
                    m.hymn.add(note);
                }
                break;
            default:
                hear(x, m);
        }
    }

    private void climb(NoteBells x, Model m) {
        int levels = m.pitch.size();
        int who = random.nextInt(4) - 1;
        int to = random.nextInt(10) - 1;
        boolean bad = who < 0 || who >= m.at.size() || to < 0 || to >= levels;
        int want = bad ? -1 : m.at.get(who) == to ? -2 : Math.abs(m.at.get(who) - to);
        checks.due("climbs", x.climbs(who, to), want);
        if (!bad) {
            m.at.set(who, to);
        }
    }

    private int likelyNote(Model m) {
        if (m.pitch.isEmpty() || random.nextInt(12) == 0) {
            return random.nextInt(199) - 99;
        }
        int sound = m.sound(random.nextInt(m.pitch.size()), m.wet);
        return sound + random.nextInt(2 * m.ear + 1) - m.ear;
    }

    private void hear(NoteBells x, Model m) {
        int minute = (m.book.isEmpty() ? 0 : m.book.get(m.book.size() - 1)[0]) + random.nextInt(4) - (random.nextInt(9) == 0 ? 1 : 0);
        int note = likelyNote(m);
        boolean bad = minute < 0 || minute > 99 || !m.book.isEmpty() && minute < m.book.get(m.book.size() - 1)[0];
        int want = bad ? -1 : m.book.size() >= 6 ? -3 : m.book.size() + 1;
        checks.due("heard", x.heard(minute, note), want);
        if (want > 0) {
            m.book.add(new int[] {minute, note});
        }
    }

    private void ask(NoteBells x, Model m, String where) {
        int levels = m.pitch.size();
        for (int l = -1; l <= levels; l++) {
            boolean is = l >= 0 && l < levels;
            checks.due(where + "pitch " + l, x.level(l, 0), is ? m.pitch.get(l) : -1000000);
            checks.due(where + "sound " + l, x.level(l, 3), is ? m.sound(l, m.wet) : -1000000);
            checks.due(where + "taken " + l, x.taken(l), is ? m.like(m.sound(l, m.wet)) : -1);
        }
        int note = likelyNote(m);
        checks.due(where + "comes " + note, x.comes(note), m.like(note));
        if (random.nextInt(4) == 0) {
            askTuning(x, m, where);
            m.walkTracks();
            checks.due(where + "tracks", x.tracks(), m.tracks);
            for (int k = 0; k < m.book.size(); k++) {
                checks.due(where + "where " + k, x.where(k), m.whereBits[k]);
            }
        }
        if (m.cheapMen() && random.nextInt(2) == 0) {
            checks.due(where + "men " + m.bookText(), x.men(), m.fewestMen());
        }
        if (m.cheapHymn() && random.nextInt(3) == 0) {
            m.playHymn();
            checks.due(where + "climbing", x.climbing(), m.leastSteps);
            for (int i = 0; i < m.hymn.size(); i++) {
                checks.due(where + "by " + i, x.by(i, 0), m.leastSteps == -9 ? -9 : m.bestWay[2 * i]);
                checks.due(where + "by level " + i, x.by(i, 1), m.leastSteps == -9 ? -9 : m.bestWay[2 * i + 1]);
            }
        }
    }

    private void askTuning(NoteBells x, Model m, String where) {
        int levels = m.pitch.size();
        int set = m.keepSet();
        checks.due(where + "keeps 1", x.keeps(1), set);
        checks.due(where + "keeps 0", x.keeps(0), levels - Integer.bitCount(set));
        int pair = -9;
        int soonest = 100;
        for (int a = 0; a < levels; a++) {
            for (int b = 0; b < levels; b++) {
                int years = a == b ? -1 : m.meet(a, b);
                checks.due(where + "meet " + a + " " + b, x.meet(a, b), years);
                if (a < b && years >= 0 && years < soonest) {
                    soonest = years;
                    pair = 10 * a + b;
                }
            }
        }
        checks.due(where + "first", x.first(), pair);
    }

    /** The shaft by the words of the document, with lists, trying every way. */
    private static final class Model {
        final List<Integer> pitch = new ArrayList<>();
        final List<Integer> wear = new ArrayList<>();
        final List<Integer> echo = new ArrayList<>();
        final List<Integer> at = new ArrayList<>();
        final List<int[]> book = new ArrayList<>();
        final List<Integer> hymn = new ArrayList<>();
        int ear;
        int wet;
        int pace;
        int year;
        private String told;

        int tracks;
        int[] whereBits = new int[6];
        private final int[] path = new int[6];

        int leastSteps;
        int[] bestWay;

        private int fewest;

        String text() {
            if (told == null) {
                StringBuilder b = new StringBuilder();
                for (int l = 0; l < pitch.size(); l++) {
                    b.append("level").append(pitch.get(l)).append(' ').append(wear.get(l)).append(' ').append(echo.get(l)).append(';');
                }
                for (int a : at) {
                    b.append("man").append(a).append(';');
                }
                b.append("ear").append(ear).append(";wet").append(wet).append(";pace").append(pace).append(';');
                told = b.toString();
            }
            return told;
        }

        /** A whole copy will do as an image: what an image does not keep changes by shaft() alone. */
        Model copy() {
            Model c = new Model();
            c.pitch.addAll(pitch);
            c.wear.addAll(wear);
            c.echo.addAll(echo);
            c.at.addAll(at);
            c.book.addAll(book);
            c.hymn.addAll(hymn);
            c.ear = ear;
            c.wet = wet;
            c.pace = pace;
            c.year = year;
            return c;
        }

        String bookText() {
            StringBuilder b = new StringBuilder();
            for (int[] n : book) {
                b.append(n[0]).append(':').append(n[1]).append(' ');
            }
            return b.append("wet ").append(wet).append(" year ").append(year).toString();
        }

        int sound(int l, int w) {
            return pitch.get(l) - (w * (l + 1)) / 2;
        }

        int like(int note) {
            int bits = 0;
            for (int l = 0; l < pitch.size(); l++) {
                if (Math.abs(sound(l, wet) - note) <= ear) {
                    bits += 1 << l;
                }
            }
            return bits;
        }

        boolean can(int note, int l) {
            return Math.abs(sound(l, wet) - note) <= ear;
        }

        void walkTracks() {
            tracks = 0;
            whereBits = new int[6];
            walk(0);
        }

        private void walk(int k) {
            if (k == book.size()) {
                tracks++;
                for (int i = 0; i < k; i++) {
                    whereBits[i] |= 1 << path[i];
                }
                return;
            }
            for (int l = 0; l < pitch.size(); l++) {
                boolean near = k == 0 || Math.abs(l - path[k - 1]) <= pace * (book.get(k)[0] - book.get(k - 1)[0]);
                if (near && can(book.get(k)[1], l)) {
                    path[k] = l;
                    walk(k + 1);
                }
            }
        }

        boolean cheapMen() {
            long ways = 1;
            for (int[] n : book) {
                ways *= 1 + 3 * Integer.bitCount(like(n[1]));
            }
            return ways <= 60000;
        }

        /** Each note: an echo, or some man of three at some level; all tried, judged at the end. */
        int fewestMen() {
            fewest = 4;
            tryNote(0, new int[6], new int[6]);
            return fewest > 3 ? -9 : fewest;
        }

        private void tryNote(int k, int[] who, int[] level) {
            if (k == book.size()) {
                if (holds(who, level)) {
                    boolean[] used = new boolean[3];
                    int n = 0;
                    for (int i = 0; i < k; i++) {
                        if (who[i] >= 0 && !used[who[i]]) {
                            used[who[i]] = true;
                            n++;
                        }
                    }
                    fewest = Math.min(fewest, n);
                }
                return;
            }
            who[k] = -1;
            tryNote(k + 1, who, level);
            for (int m = 0; m < 3; m++) {
                for (int l = 0; l < pitch.size(); l++) {
                    if (can(book.get(k)[1], l)) {
                        who[k] = m;
                        level[k] = l;
                        tryNote(k + 1, who, level);
                    }
                }
            }
        }

        private boolean holds(int[] who, int[] level) {
            for (int k = 0; k < book.size(); k++) {
                boolean ok = who[k] >= 0;
                for (int j = 0; j < k; j++) {
                    int minutes = book.get(k)[0] - book.get(j)[0];
                    if (who[k] < 0 && who[j] >= 0 && minutes == 2 && echo.get(level[j]) == 1 && can(book.get(k)[1], level[j])) {
                        ok = true;
                    }
                    if (who[k] >= 0 && who[j] == who[k] && Math.abs(level[k] - level[j]) > pace * minutes) {
                        return false;
                    }
                }
                if (!ok) {
                    return false;
                }
            }
            return true;
        }

        int keepSet() {
            int best = 0;
            for (int set = (1 << pitch.size()) - 1; set > 0; set--) {
                if (apart(set) && Integer.bitCount(set) >= Integer.bitCount(best)) {
                    best = set;
                }
            }
            return best;
        }

        private boolean apart(int set) {
            for (int a = 0; a < pitch.size(); a++) {
                for (int b = 0; b < a; b++) {
                    for (int w = 0; w < 10 && (set >> a & set >> b & 1) == 1; w++) {
                        if (Math.abs(sound(a, w) - sound(b, w)) <= ear) {
                            return false;
                        }
                    }
                }
            }
            return true;
        }

        int meet(int a, int b) {
            int pa = pitch.get(a);
            int pb = pitch.get(b);
            for (int y = 0; y < 100; y++) {
                if (Math.abs(pa - wet * (a + 1) / 2 - pb + wet * (b + 1) / 2) <= ear) {
                    return y;
                }
                pa = Math.max(0, pa - wear.get(a));
                pb = Math.max(0, pb - wear.get(b));
            }
            return -9;
        }

        boolean cheapHymn() {
            long ways = 1;
            for (int note : hymn) {
                ways *= Math.max(1, at.size() * Integer.bitCount(like(note)));
            }
            return ways <= 60000;
        }

        void playHymn() {
            leastSteps = Integer.MAX_VALUE;
            int[] stand = new int[at.size()];
            for (int m = 0; m < stand.length; m++) {
                stand[m] = at.get(m);
            }
            play(0, stand, 0, new int[16]);
            if (leastSteps == Integer.MAX_VALUE) {
                leastSteps = -9;
            }
        }

        /** Tried in the order of men and levels, so that the first of the least is kept. */
        private void play(int i, int[] stand, int steps, int[] way) {
            if (i == hymn.size()) {
                if (steps < leastSteps) {
                    leastSteps = steps;
                    bestWay = way.clone();
                }
                return;
            }
            for (int m = 0; m < stand.length; m++) {
                for (int l = 0; l < pitch.size(); l++) {
                    if (can(hymn.get(i), l)) {
                        int from = stand[m];
                        stand[m] = l;
                        way[2 * i] = m;
                        way[2 * i + 1] = l;
                        play(i + 1, stand, steps + Math.abs(l - from), way);
                        stand[m] = from;
                    }
                }
            }
        }
    }

    // ---- texts

    private static final String[] PIECES = {"level", "man", "ear", "wet", "pace", ";", ";", "0", "1", "2", "4", "5", "9", "10", "60", "61", "99", "100",
        "05", "00", " ", " ", " ", "levels", "lev", "A", "-", "\u00c8", "4294967297", "18446744073709551617"};

    private void oneText() {
        StringBuilder b = new StringBuilder();
        int items = random.nextInt(12);
        for (int i = 0; i < items && b.length() < 180; i++) {
            b.append(randomItem());
        }
        String text = b.length() > 200 ? b.substring(0, 200) : b.toString();
        if (random.nextInt(3) > 0 && !text.isEmpty()) {
            int at = random.nextInt(text.length());
            String piece = PIECES[random.nextInt(PIECES.length)];
            int skip = random.nextInt(3);
            text = text.substring(0, at) + piece + text.substring(Math.min(text.length(), at + skip));
            text = text.substring(0, Math.min(200, text.length()));
        }
        if (random.nextInt(8) == 0) {
            text = text.substring(0, random.nextInt(text.length() + 1));
        }
        NoteBells x = new NoteBells();
        Checks.type(x, text);
        checks.due("shaft of '" + text + "'", x.shaft(), shaftDue(text));
    }

    private String randomItem() {
        String gap = " ".repeat(random.nextInt(2));
        switch (random.nextInt(9)) {
            case 0:
            case 1:
            case 2:
            case 3:
                return gap + "level" + gap + random.nextInt(61) + " " + random.nextInt(10) + " " + gap + random.nextInt(2) + gap + ";";
            case 4:
            case 5:
                return "man" + gap + random.nextInt(4) + ";" + gap;
            case 6:
                return "ear" + gap + random.nextInt(10) + gap + ";";
            case 7:
                return "wet" + random.nextInt(10) + gap + ";";
            default:
                return "pace " + gap + (1 + random.nextInt(4)) + ";";
        }
    }

    /** What is due by a list of tokens, with the reading of one as a walk through what may come next. */
    private static int shaftDue(String text) {
        List<String> tokens = new ArrayList<>();
        List<Integer> places = new ArrayList<>();
        java.util.regex.Matcher m = java.util.regex.Pattern.compile("[a-z]+|[0-9]+|[^ ]", java.util.regex.Pattern.DOTALL).matcher(text);
        while (m.find()) {
            tokens.add(m.group());
            places.add(m.start());
        }
        int levels = 0;
        int men = 0;
        String once = "";
        int items = 0;
        String[] expected = {};
        int next = 0;
        for (int i = 0; i < tokens.size(); i++) {
            String t = tokens.get(i);
            if (next == expected.length) {
                next = 0;
                if (t.equals("level") && levels < 8) {
                    expected = new String[] {"0-60", "0-9", "0-1", ";"};
                    levels++;
                } else if (t.equals("man") && men < 3) {
                    expected = new String[] {"0-" + (levels - 1), ";"};
                    men++;
                } else if ((t.equals("ear") || t.equals("wet") || t.equals("pace")) && !once.contains(t)) {
                    expected = new String[] {t.equals("pace") ? "1-4" : "0-9", ";"};
                    once += t;
                } else {
                    return -10 - places.get(i);
                }
                items++;
            } else {
                if (!fits(t, expected[next])) {
                    return -10 - places.get(i);
                }
                next++;
            }
        }
        return next == expected.length ? items : -10 - text.length();
    }

    private static boolean fits(String t, String expected) {
        if (expected.equals(";")) {
            return t.equals(";");
        }
        if (!t.matches("0|[1-9][0-9]?")) {
            return false;
        }
        int dash = expected.indexOf('-');
        int n = Integer.parseInt(t);
        return n >= Integer.parseInt(expected.substring(0, dash)) && n <= Integer.parseInt(expected.substring(dash + 1));
    }
}
