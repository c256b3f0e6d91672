import java.util.Arrays;

/**
 * A shaft of levels with a bell at each, told by a text: what the bells sound like on a wet rope,
 * men who climb and pluck, and what can be known from notes that were heard.
 */
public final class NoteBells {
    public static final int BAD = -1, STATE = -2, FULL = -3, NONE = -9;
    public static final int NO = -1000000;

    private static final int MOST_LEVELS = 8;
    private static final int MOST_MEN = 3;
    private static final int MOST_BYTES = 200;
    private static final int MOST_HEARD = 6;
    private static final int MOST_SUNG = 8;
    private static final int MOST_PITCH = 60;
    private static final int MOST_WEAR = 9;
    private static final int MOST_EAR = 9;
    private static final int MOST_WET = 9;
    private static final int MOST_PACE = 4;
    private static final int MOST_MINUTE = 99;
    private static final int MOST_NOTE = 99;
    private static final int MOST_YEAR = 999;
    private static final int MOST_YEARS_TO_MEET = 99;
    private static final int IMAGES = 2;
    private static final int ALL_LEVELS = 255;

    private final Text text;
    private final Told told;
    private final Told draft;
    private final Reader reader;
    private final Now now;
    private final Now[] images;
    private final boolean[] hasImage;
    private final Sounds sounds;
    private final OneMan oneMan;
    private final Pluckers pluckers;
    private final Tuning tuning;
    private final HymnPlan plan;
    private final Kinds kinds;

    public NoteBells() {
        text = new Text();
        told = new Told();
        draft = new Told();
        reader = new Reader(text, draft);
        now = new Now();
        images = new Now[IMAGES];
        for (int i = 0; i < IMAGES; i++) {
            images[i] = new Now();
        }
        hasImage = new boolean[IMAGES];
        sounds = new Sounds(told, now);
        oneMan = new OneMan(told, now, sounds);
        pluckers = new Pluckers(told, now, sounds);
        tuning = new Tuning(told, now);
        plan = new HymnPlan(told, now, sounds);
        kinds = new Kinds(told, now);
    }

    // ---- the shaft

    public int type(long v, int n) {
        return text.append(v, n);
    }

    public int clear() {
        return text.drop();
    }

    public int shaft() {
        int items = reader.read();
        if (items < 0) {
            return items;
        }
        told.copyFrom(draft);
        now.begin(told);
        for (int i = 0; i < IMAGES; i++) {
            hasImage[i] = false;
        }
        text.drop();
        return items;
    }

    public int level(int l, int what) {
        if (!isLevel(l)) {
            return NO;
        }
        switch (what) {
            case 0:
                return now.pitch[l];
            case 1:
                return told.wear[l];
            case 2:
                return told.echo[l];
            case 3:
                return sounds.soundOf(l);
            default:
                return NO;
        }
    }

    public int man(int m) {
        return isMan(m) ? now.stands[m] : BAD;
    }

    public int wet(int w) {
        if (!isWithin(w, 0, MOST_WET)) {
            return BAD;
        }
        int before = now.wetness;
        now.wetness = w;
        return before;
    }

    public int taken(int l) {
        return isLevel(l) ? sounds.likeSound(sounds.soundOf(l)) : BAD;
    }

    public int comes(int note) {
        return isNote(note) ? sounds.likeSound(note) : BAD;
    }

    // ---- men

    public int climbs(int m, int l) {
        if (!isMan(m) || !isLevel(l)) {
            return BAD;
        }
        int steps = Math.abs(now.stands[m] - l);
        if (steps == 0) {
            return STATE;
        }
        now.stands[m] = l;
        return steps;
    }

    public int plucks(int m) {
        if (!isMan(m) || now.stands[m] >= now.ropeEnd) {
            return NO;
        }
        return sounds.soundOf(now.stands[m]);
    }

    public int falls(int l) {
        if (!isLevel(l)) {
            return BAD;
        }
        if (now.ropeEnd <= l) {
            return STATE;
        }
        now.ropeEnd = l;
        return silentLevels();
    }

    public int mends() {
        int silent = silentLevels();
        if (silent == 0) {
            return STATE;
        }
        now.ropeEnd = MOST_LEVELS;
        return silent;
    }

    public int year() {
        if (now.yearNumber >= MOST_YEAR) {
            return STATE;
        }
        for (int l = 0; l < told.levels; l++) {
            now.pitch[l] = worn(now.pitch[l], told.wear[l], 1);
        }
        now.yearNumber++;
        return now.yearNumber;
    }

    // ---- the book

    public int heard(int minute, int note) {
        if (!isWithin(minute, 0, MOST_MINUTE) || !isNote(note)) {
            return BAD;
        }
        if (now.notes > 0 && minute < now.minuteOf[now.notes - 1]) {
            return BAD;
        }
        if (now.notes >= MOST_HEARD) {
            return FULL;
        }
        now.minuteOf[now.notes] = minute;
        now.noteOf[now.notes] = note;
        now.notes++;
        return now.notes;
    }

    public int forget() {
        int had = now.notes;
        now.notes = 0;
        return had;
    }

    public int tracks() {
        return oneMan.countTracks();
    }

    public int where(int k) {
        return isWithin(k, 0, now.notes - 1) ? oneMan.levelsBy(k) : BAD;
    }

    public int men() {
        return pluckers.fewest();
    }

    // ---- tuning

    public int keeps(int what) {
        if (!isWithin(what, 0, 1)) {
            return BAD;
        }
        int kept = tuning.largestSet();
        return what == 0 ? told.levels - Integer.bitCount(kept) : kept;
    }

    public int meet(int a, int b) {
        if (!isLevel(a) || !isLevel(b) || a == b) {
            return BAD;
        }
        return tuning.yearsToMeet(a, b);
    }

    public int first() {
        return tuning.earliestPair();
    }

    // ---- hymns

    public int sing(int note) {
        if (!isNote(note)) {
            return BAD;
        }
        if (now.sung >= MOST_SUNG) {
            return FULL;
        }
        now.hymn[now.sung] = note;
        now.sung++;
        return now.sung;
    }

    public int hush() {
        int had = now.sung;
        now.sung = 0;
        return had;
    }

    public int climbing() {
        return plan.leastSteps();
    }

    public int by(int i, int what) {
        if (!isWithin(i, 0, now.sung - 1) || !isWithin(what, 0, 1)) {
            return BAD;
        }
        int move = plan.moveFor(i);
        if (move == NONE) {
            return NONE;
        }
        return what == 0 ? move / MOST_LEVELS : move % MOST_LEVELS;
    }

    // ---- kinds, images

    public int mark(int kind, int l) {
        return isLevel(l) ? kinds.markAs(kind, l) : NO;
    }

    public int keep(int image) {
        if (!isWithin(image, 0, IMAGES - 1)) {
            return BAD;
        }
        images[image].copyFrom(now);
        hasImage[image] = true;
        return now.yearNumber;
    }

    public int back(int image) {
        if (!isWithin(image, 0, IMAGES - 1)) {
            return BAD;
        }
        if (!hasImage[image]) {
            return STATE;
        }
        now.copyFrom(images[image]);
        return now.yearNumber;
    }

    public int count(int what) {
        switch (what) {
            case 0:
                return told.levels;
            case 1:
                return told.people;
            case 2:
                return told.ear;
            case 3:
                return now.wetness;
            case 4:
                return told.pace;
            case 5:
                return now.notes;
            case 6:
                return now.sung;
            case 7:
                return now.yearNumber;
            case 8:
                return text.length;
            default:
                return BAD;
        }
    }

    public long trace() {
        return kinds.traceSum;
    }

    private boolean isLevel(int l) {
        return isWithin(l, 0, told.levels - 1);
    }

    private boolean isMan(int m) {
        return isWithin(m, 0, told.people - 1);
    }

    private int silentLevels() {
        return Math.max(0, told.levels - now.ropeEnd);
    }

    private static boolean isNote(int note) {
        return isWithin(note, -MOST_NOTE, MOST_NOTE);
    }

    private static boolean isWithin(int value, int least, int most) {
        return value >= least && value <= most;
    }

    private static int worn(int pitch, int wear, int years) {
        return Math.max(0, pitch - wear * years);
    }

    private static int soundAt(int pitch, int l, int wetness) {
        return pitch - wetness * (l + 1) / 2;
    }

    /** The levels (bits) that lie at most so many steps from one of the levels given. */
    private static int spread(int levels, int steps) {
        int spreadOut = levels;
        int useful = Math.min(steps, MOST_LEVELS - 1);
        for (int i = 0; i < useful; i++) {
            spreadOut = (spreadOut | spreadOut << 1 | spreadOut >> 1) & ALL_LEVELS;
        }
        return spreadOut;
    }

    /** The bytes typed since the text was last emptied. */
    private static final class Text {
        private final int[] bytes = new int[MOST_BYTES];
        private int length;

        private int append(long v, int n) {
            if (!isWithin(n, 1, 8)) {
                return BAD;
            }
            if (length + n > MOST_BYTES) {
                return FULL;
            }
            for (int i = n - 1; i >= 0; i--) {
                bytes[length] = (int) (v >>> (8 * i)) & 255;
                length++;
            }
            return length;
        }

        private int drop() {
            int had = length;
            length = 0;
            return had;
        }
    }

    /** What a text tells; a new one is what stands when nothing is told. */
    private static final class Told {
        private final int[] pitch = new int[MOST_LEVELS];
        private final int[] wear = new int[MOST_LEVELS];
        private final int[] echo = new int[MOST_LEVELS];
        private final int[] stands = new int[MOST_MEN];
        private int levels;
        private int people;
        private int ear;
        private int wetness;
        private int pace = 1;

        private void reset() {
            levels = 0;
            people = 0;
            ear = 0;
            wetness = 0;
            pace = 1;
        }

        private void copyFrom(Told other) {
            System.arraycopy(other.pitch, 0, pitch, 0, MOST_LEVELS);
            System.arraycopy(other.wear, 0, wear, 0, MOST_LEVELS);
            System.arraycopy(other.echo, 0, echo, 0, MOST_LEVELS);
            System.arraycopy(other.stands, 0, stands, 0, MOST_MEN);
            levels = other.levels;
            people = other.people;
            ear = other.ear;
            wetness = other.wetness;
            pace = other.pace;
        }

        private int echoLevels() {
            int levelBits = 0;
            for (int l = 0; l < levels; l++) {
                levelBits |= echo[l] << l;
            }
            return levelBits;
        }
    }

    /** Splits the text into tokens, and reads these into a draft of what they tell. */
    private static final class Reader {
        private static final int END = 0, WRONG = 1, NUMBER = 2, SEMICOLON = 3;
        private static final int LEVEL = 4, MAN = 5, EAR = 6, WET = 7, PACE = 8;

        private final Text text;
        private final Told draft;
        private final int[] tokens = new int[MOST_BYTES + 1];
        private final int[] starts = new int[MOST_BYTES + 1];
        private final int[] numbers = new int[MOST_BYTES + 1];
        /** The token that is read; behind the last one stands END, and nothing is read behind that. */
        private int at;
        private boolean earTold;
        private boolean wetTold;
        private boolean paceTold;

        private Reader(Text text, Told draft) {
            this.text = text;
            this.draft = draft;
        }

        /** How many items there are; -10 less the fault's place. */
        private int read() {
            splitText();
            draft.reset();
            earTold = false;
            wetTold = false;
            paceTold = false;
            at = 0;
            int items = 0;
            while (tokens[at] != END && items < MOST_BYTES) {
                if (!readItem()) {
                    return -10 - starts[at];
                }
                items++;
                advance();
            }
            return items;
        }

        private boolean readItem() {
            switch (tokens[at]) {
                case LEVEL:
                    return readLevel();
                case MAN:
                    return readMan();
                case EAR:
                    return readEar();
                case WET:
                    return readWet();
                case PACE:
                    return readPace();
                default:
                    return false;
            }
        }

        private boolean readLevel() {
            int l = draft.levels;
            if (l >= MOST_LEVELS) {
                return false;
            }
            if (!readNumber(0, MOST_PITCH)) {
                return false;
            }
            draft.pitch[l] = numbers[at];
            if (!readNumber(0, MOST_WEAR)) {
                return false;
            }
            draft.wear[l] = numbers[at];
            if (!readNumber(0, 1)) {
                return false;
            }
            draft.echo[l] = numbers[at];
            draft.levels = l + 1;
            return readSemicolon();
        }

        private boolean readMan() {
            int m = draft.people;
            if (m >= MOST_MEN || !readNumber(0, draft.levels - 1)) {
                return false;
            }
            draft.stands[m] = numbers[at];
            draft.people = m + 1;
            return readSemicolon();
        }

        private boolean readEar() {
            if (earTold || !readNumber(0, MOST_EAR)) {
                return false;
            }
            draft.ear = numbers[at];
            earTold = true;
            return readSemicolon();
        }

        private boolean readWet() {
            if (wetTold || !readNumber(0, MOST_WET)) {
                return false;
            }
            draft.wetness = numbers[at];
            wetTold = true;
            return readSemicolon();
        }

        private boolean readPace() {
            if (paceTold || !readNumber(1, MOST_PACE)) {
                return false;
            }
            draft.pace = numbers[at];
            paceTold = true;
            return readSemicolon();
        }

        private boolean readNumber(int least, int most) {
            advance();
            return tokens[at] == NUMBER && isWithin(numbers[at], least, most);
        }

        private boolean readSemicolon() {
            advance();
            return tokens[at] == SEMICOLON;
        }

        private void advance() {
            if (tokens[at] != END && at < MOST_BYTES) {
                at++;
            }
        }

        private void splitText() {
            int found = 0;
            int place = 0;
            while (place < text.length && found < MOST_BYTES) {
                if (text.bytes[place] == ' ') {
                    place++;
                } else {
                    starts[found] = place;
                    place = takeToken(found, place);
                    found++;
                }
            }
            tokens[found] = END;
            starts[found] = text.length;
        }

        /** The place behind the token that starts at a place. */
        private int takeToken(int i, int place) {
            int sign = text.bytes[place];
            if (isWithin(sign, 'a', 'z')) {
                int end = endOfRun(place, 'a', 'z');
                tokens[i] = wordAt(place, end);
                return end;
            }
            if (isWithin(sign, '0', '9')) {
                int end = endOfRun(place, '0', '9');
                numbers[i] = numberAt(place, end);
                tokens[i] = numbers[i] < 0 ? WRONG : NUMBER;
                return end;
            }
            tokens[i] = sign == ';' ? SEMICOLON : WRONG;
            return place + 1;
        }

        private int endOfRun(int place, int least, int most) {
            int end = place + 1;
            while (end < text.length && isWithin(text.bytes[end], least, most)) {
                end++;
            }
            return end;
        }

        private int wordAt(int place, int end) {
            if (isWord("level", place, end)) {
                return LEVEL;
            }
            if (isWord("man", place, end)) {
                return MAN;
            }
            if (isWord("ear", place, end)) {
                return EAR;
            }
            if (isWord("wet", place, end)) {
                return WET;
            }
            return isWord("pace", place, end) ? PACE : WRONG;
        }

        private boolean isWord(String word, int place, int end) {
            if (end - place != word.length()) {
                return false;
            }
            for (int i = 0; i < word.length(); i++) {
                if (text.bytes[place + i] != word.charAt(i)) {
                    return false;
                }
            }
            return true;
        }

        /** The number of one sign, or of two of which the first is no 0; -1 if it is no such number. */
        private int numberAt(int place, int end) {
            int last = text.bytes[end - 1] - '0';
            if (end - place == 1) {
                return last;
            }
            if (end - place > 2 || text.bytes[place] == '0') {
                return -1;
            }
            return (text.bytes[place] - '0') * 10 + last;
        }
    }

    /** All that an image keeps. */
    private static final class Now {
        private final int[] pitch = new int[MOST_LEVELS];
        private final int[] stands = new int[MOST_MEN];
        private final int[] minuteOf = new int[MOST_HEARD];
        private final int[] noteOf = new int[MOST_HEARD];
        private final int[] hymn = new int[MOST_SUNG];
        private int yearNumber;
        private int wetness;
        /** The first silent level; behind all levels while the rope is whole. */
        private int ropeEnd = MOST_LEVELS;
        private int notes;
        private int sung;

        private void begin(Told told) {
            System.arraycopy(told.pitch, 0, pitch, 0, MOST_LEVELS);
            System.arraycopy(told.stands, 0, stands, 0, MOST_MEN);
            yearNumber = 0;
            wetness = told.wetness;
            ropeEnd = MOST_LEVELS;
            notes = 0;
            sung = 0;
        }

        private void copyFrom(Now other) {
            System.arraycopy(other.pitch, 0, pitch, 0, MOST_LEVELS);
            System.arraycopy(other.stands, 0, stands, 0, MOST_MEN);
            System.arraycopy(other.minuteOf, 0, minuteOf, 0, MOST_HEARD);
            System.arraycopy(other.noteOf, 0, noteOf, 0, MOST_HEARD);
            System.arraycopy(other.hymn, 0, hymn, 0, MOST_SUNG);
            yearNumber = other.yearNumber;
            wetness = other.wetness;
            ropeEnd = other.ropeEnd;
            notes = other.notes;
            sung = other.sung;
        }
    }

    /** What the bells sound like as wet as the rope is. */
    private static final class Sounds {
        private final Told told;
        private final Now now;

        private Sounds(Told told, Now now) {
            this.told = told;
            this.now = now;
        }

        private int soundOf(int l) {
            return soundAt(now.pitch[l], l, now.wetness);
        }

        /** The levels (bits) whose sound an ear can't tell from the one given. */
        private int likeSound(int sound) {
            int levelBits = 0;
            for (int l = 0; l < told.levels; l++) {
                if (Math.abs(soundOf(l) - sound) <= told.ear) {
                    levelBits |= 1 << l;
                }
            }
            return levelBits;
        }
    }

    /** The ways of one man who plucked all notes of the book. */
    private static final class OneMan {
        private final Told told;
        private final Now now;
        private final Sounds sounds;
        private final int[] ways = new int[MOST_LEVELS];
        private final int[] waysBefore = new int[MOST_LEVELS];

        private OneMan(Told told, Now now, Sounds sounds) {
            this.told = told;
            this.now = now;
            this.sounds = sounds;
        }

        private int countTracks() {
            if (now.notes == 0) {
                return 1;
            }
            int possible = sounds.likeSound(now.noteOf[0]);
            for (int l = 0; l < MOST_LEVELS; l++) {
                ways[l] = possible >> l & 1;
            }
            for (int k = 1; k < now.notes; k++) {
                stepTo(k);
            }
            int sum = 0;
            for (int l = 0; l < MOST_LEVELS; l++) {
                sum += ways[l];
            }
            return sum;
        }

        private void stepTo(int k) {
            System.arraycopy(ways, 0, waysBefore, 0, MOST_LEVELS);
            int possible = sounds.likeSound(now.noteOf[k]);
            int steps = stepsBetween(k - 1, k);
            for (int l = 0; l < MOST_LEVELS; l++) {
                ways[l] = (possible >> l & 1) == 0 ? 0 : waysWithin(l, steps);
            }
        }

        private int waysWithin(int l, int steps) {
            int sum = 0;
            for (int from = 0; from < MOST_LEVELS; from++) {
                if (Math.abs(from - l) <= steps) {
                    sum += waysBefore[from];
                }
            }
            return sum;
        }

        private int stepsBetween(int k, int later) {
            return told.pace * (now.minuteOf[later] - now.minuteOf[k]);
        }

        private int levelsBy(int k) {
            int fromAhead = sounds.likeSound(now.noteOf[0]);
            for (int i = 1; i <= k; i++) {
                fromAhead = spread(fromAhead, stepsBetween(i - 1, i)) & sounds.likeSound(now.noteOf[i]);
            }
            int fromBehind = sounds.likeSound(now.noteOf[now.notes - 1]);
            for (int i = now.notes - 2; i >= k; i--) {
                fromBehind = spread(fromBehind, stepsBetween(i, i + 1)) & sounds.likeSound(now.noteOf[i]);
            }
            return fromAhead & fromBehind;
        }
    }

    /**
     * The fewest men for the book. First it is chosen which notes are echoes and of which notes
     * (an echo narrows the levels at which its note was plucked); then the others go to men.
     */
    private static final class Pluckers {
        private final Told told;
        private final Now now;
        private final Sounds sounds;
        private final int[] possible = new int[MOST_HEARD];
        private final boolean[] isEcho = new boolean[MOST_HEARD];
        private final int[] manLevels = new int[MOST_MEN];
        private final int[] manMinute = new int[MOST_MEN];
        private int echoLevels;
        private int best;

        private Pluckers(Told told, Now now, Sounds sounds) {
            this.told = told;
            this.now = now;
            this.sounds = sounds;
        }

        private int fewest() {
            if (now.notes == 0) {
                return 0;
            }
            for (int i = 0; i < now.notes; i++) {
                possible[i] = sounds.likeSound(now.noteOf[i]);
                isEcho[i] = false;
                // An echo, too, can come from a level: a note from nowhere is never explained.
                if (possible[i] == 0) {
                    return NONE;
                }
            }
            echoLevels = told.echoLevels();
            best = MOST_MEN + 1;
            chooseEchoes(0);
            return best > MOST_MEN ? NONE : best;
        }

        private void chooseEchoes(int i) {
            if (i >= now.notes) {
                giveToMen(0, 0);
                return;
            }
            chooseEchoes(i + 1);
            for (int source = 0; source < i && best > 1; source++) {
                if (!isEcho[source] && now.minuteOf[source] + 2 == now.minuteOf[i]) {
                    chooseEchoOf(source, i);
                }
            }
        }

        private void chooseEchoOf(int source, int i) {
            int before = possible[source];
            possible[source] = before & echoLevels & possible[i];
            if (possible[source] != 0) {
                isEcho[i] = true;
                chooseEchoes(i + 1);
                isEcho[i] = false;
            }
            possible[source] = before;
        }

        private void giveToMen(int i, int used) {
            if (used >= best) {
                return;
            }
            if (i >= now.notes) {
                best = used;
                return;
            }
            if (isEcho[i]) {
                giveToMen(i + 1, used);
                return;
            }
            for (int m = 0; m <= used && m < MOST_MEN; m++) {
                giveTo(m, i, used);
            }
        }

        private void giveTo(int m, int i, int used) {
            boolean isNew = m == used;
            int levelsBefore = manLevels[m];
            int minuteBefore = manMinute[m];
            int reached = possible[i];
            if (!isNew) {
                reached &= spread(levelsBefore, told.pace * (now.minuteOf[i] - minuteBefore));
            }
            if (reached == 0) {
                return;
            }
            manLevels[m] = reached;
            manMinute[m] = now.minuteOf[i];
            giveToMen(i + 1, isNew ? used + 1 : used);
            manLevels[m] = levelsBefore;
            manMinute[m] = minuteBefore;
        }
    }

    /** Which bells stay apart in all wets, and which sound alike after years. */
    private static final class Tuning {
        private final Told told;
        private final Now now;
        private final int[] clashes = new int[MOST_LEVELS];

        private Tuning(Told told, Now now) {
            this.told = told;
            this.now = now;
        }

        /** The most levels (bits) of which no two sound alike at any wet; of several the least bits. */
        private int largestSet() {
            findClashes();
            int best = 0;
            for (int set = 1; set < 1 << told.levels; set++) {
                if (Integer.bitCount(set) > Integer.bitCount(best) && isClear(set)) {
                    best = set;
                }
            }
            return best;
        }

        private void findClashes() {
            for (int a = 0; a < told.levels; a++) {
                clashes[a] = 0;
                for (int b = 0; b < told.levels; b++) {
                    if (a != b && clashAtSomeWet(a, b)) {
                        clashes[a] |= 1 << b;
                    }
                }
            }
        }

        private boolean clashAtSomeWet(int a, int b) {
            for (int w = 0; w <= MOST_WET; w++) {
                if (soundAlike(a, now.pitch[a], b, now.pitch[b], w)) {
                    return true;
                }
            }
            return false;
        }

        private boolean isClear(int set) {
            for (int l = 0; l < told.levels; l++) {
                if ((set >> l & 1) == 1 && (clashes[l] & set) != 0) {
                    return false;
                }
            }
            return true;
        }

        private boolean soundAlike(int a, int pitchA, int b, int pitchB, int wetness) {
            return Math.abs(soundAt(pitchA, a, wetness) - soundAt(pitchB, b, wetness)) <= told.ear;
        }

        private int yearsToMeet(int a, int b) {
            for (int years = 0; years <= MOST_YEARS_TO_MEET; years++) {
                int pitchA = worn(now.pitch[a], told.wear[a], years);
                int pitchB = worn(now.pitch[b], told.wear[b], years);
                if (soundAlike(a, pitchA, b, pitchB, now.wetness)) {
                    return years;
                }
            }
            return NONE;
        }

        /** 10 A and B of the pair that meets first; NONE. */
        private int earliestPair() {
            int pair = NONE;
            int fewestYears = MOST_YEARS_TO_MEET + 1;
            for (int a = 0; a < told.levels; a++) {
                for (int b = a + 1; b < told.levels; b++) {
                    int years = yearsToMeet(a, b);
                    if (years != NONE && years < fewestYears) {
                        fewestYears = years;
                        pair = 10 * a + b;
                    }
                }
            }
            return pair;
        }
    }

    /**
     * The hymn's least climbing. A standing is where all men stand, three bits a man. For each note
     * and each standing that can come up ahead of it there are the least steps for the rest.
     */
    private static final class HymnPlan {
        private static final int BITS = 3;
        private static final int STANDINGS = 1 << BITS * MOST_MEN;
        private static final int UNSEEN = -1;
        private static final int TOO_FAR = 1000;

        private final Told told;
        private final Now now;
        private final Sounds sounds;
        private final int[][] rest = new int[MOST_SUNG + 1][STANDINGS];
        private final int[] possible = new int[MOST_SUNG];

        private HymnPlan(Told told, Now now, Sounds sounds) {
            this.told = told;
            this.now = now;
            this.sounds = sounds;
        }

        private int leastSteps() {
            findRests();
            int least = rest[0][startStanding()];
            return least >= TOO_FAR ? NONE : least;
        }

        /** The man, times eight, and his level for the i-th note; NONE. */
        private int moveFor(int i) {
            if (leastSteps() == NONE) {
                return NONE;
            }
            int standing = startStanding();
            for (int k = 0; k < i; k++) {
                standing = moved(standing, earliestBestMove(k, standing));
            }
            return earliestBestMove(i, standing);
        }

        private int earliestBestMove(int i, int standing) {
            for (int move = 0; move < told.people * MOST_LEVELS; move++) {
                if (canMake(i, move) && restBehind(i, standing, move) == rest[i][standing]) {
                    return move;
                }
            }
            return 0;
        }

        private void findRests() {
            for (int i = 0; i < now.sung; i++) {
                possible[i] = sounds.likeSound(now.hymn[i]);
            }
            markStandings();
            for (int i = now.sung - 1; i >= 0; i--) {
                for (int standing = 0; standing < STANDINGS; standing++) {
                    if (rest[i][standing] != UNSEEN) {
                        rest[i][standing] = leastRest(i, standing);
                    }
                }
            }
        }

        /** Only standings that can come up are looked at further: they are few for most hymns. Behind the last note the rest is 0. */
        private void markStandings() {
            for (int i = 0; i <= now.sung; i++) {
                Arrays.fill(rest[i], UNSEEN);
            }
            rest[0][startStanding()] = 0;
            for (int i = 0; i < now.sung; i++) {
                for (int standing = 0; standing < STANDINGS; standing++) {
                    if (rest[i][standing] != UNSEEN) {
                        markBehind(i, standing);
                    }
                }
            }
        }

        private void markBehind(int i, int standing) {
            for (int move = 0; move < told.people * MOST_LEVELS; move++) {
                if (canMake(i, move)) {
                    rest[i + 1][moved(standing, move)] = 0;
                }
            }
        }

        private int leastRest(int i, int standing) {
            int least = TOO_FAR;
            for (int move = 0; move < told.people * MOST_LEVELS; move++) {
                if (canMake(i, move)) {
                    least = Math.min(least, restBehind(i, standing, move));
                }
            }
            return least;
        }

        private boolean canMake(int i, int move) {
            return (possible[i] >> move % MOST_LEVELS & 1) == 1;
        }

        private int restBehind(int i, int standing, int move) {
            int from = standing >> BITS * (move / MOST_LEVELS) & MOST_LEVELS - 1;
            return Math.abs(move % MOST_LEVELS - from) + rest[i + 1][moved(standing, move)];
        }

        private static int moved(int standing, int move) {
            int shift = BITS * (move / MOST_LEVELS);
            return standing & ~(MOST_LEVELS - 1 << shift) | move % MOST_LEVELS << shift;
        }

        private int startStanding() {
            int standing = 0;
            for (int m = 0; m < told.people; m++) {
                standing |= now.stands[m] << BITS * m;
            }
            return standing;
        }
    }

    /** Marks of levels by kinds, and the trace of all bodies that were asked. */
    private static final class Kinds {
        private final Told told;
        private final Now now;
        private long traceSum;

        private Kinds(Told told, Now now) {
            this.told = told;
            this.now = now;
        }

        private int markAs(int kind, int l) {
            switch (kind) {
                case 0:
                    return asLevel(l);
                case 1:
                    return asGallery(l);
                case 2:
                    return asSump(l);
                case 3:
                    return asDeep(l);
                case 4:
                    return asDrowned(l);
                case 5:
                    return asStage(l);
                default:
                    return NO;
            }
        }

        private int asLevel(int l) {
            traceSum += 1;
            return now.pitch[l];
        }

        private int asGallery(int l) {
            traceSum += 10;
            return asLevel(l) + told.echo[l];
        }

        private int asSump(int l) {
            traceSum += 100;
            return asLevel(l) - now.wetness;
        }

        private int asDeep(int l) {
            traceSum += 1000;
            return asGallery(l) * 2;
        }

        private int asDrowned(int l) {
            traceSum += 10000;
            return asSump(l) + l;
        }

        private int asStage(int l) {
            traceSum += 100000;
            return asLevel(l) + menAt(l);
        }

        private int menAt(int l) {
            int standing = 0;
            for (int m = 0; m < told.people; m++) {
                if (now.stands[m] == l) {
                    standing++;
                }
            }
            return standing;
        }
    }
}
