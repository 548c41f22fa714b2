import java.util.Arrays;

/** The log of a clapperboard: takes, boards, rolls, clocks, and what is wrong with them. */
public final class TakeLog {
    public static final int NONE = -1;

    private static final int MOST_TAKES = 24;
    private static final int MOST_SECONDS = 120;
    private static final int MOST_OFF = 99;
    private static final int LAST_LETTER = 25;
    private static final int MOST_REMEMBERED = 14;
    private static final int SLOTS = 2;

    // The first twelve numbers of a state are those that about tells, under the same numbers.
    private static final int TAKES = 0;
    private static final int MEANT_SCENE = 1;
    private static final int MEANT_LETTER = 2;
    private static final int BOARD_SCENE = 3;
    private static final int BOARD_LETTER = 4;
    private static final int BOARD_TAKE = 5;
    private static final int CAMERA_ROLL = 6;
    private static final int CAMERA_USED = 7;
    private static final int SOUND_ROLL = 8;
    private static final int SOUND_USED = 9;
    private static final int TIME = 10;
    private static final int SOUND_OFF = 11;
    private static final int LAST_HEAD = 11;
    private static final int LAST_ABOUT = 16;

    // Behind them stand the settings.
    private static final int SETTINGS = 12;
    private static final int CAMERA_SECONDS = 0;
    private static final int SOUND_SECONDS = 1;
    private static final int PAUSE = 2;
    private static final int BOARD_GOES_ON = 3;
    private static final int LAST_SETTING = 3;
    private static final int[] LOWEST_SETTING = {60, 60, 0, 0};
    private static final int[] HIGHEST_SETTING = {999, 3600, 60, 1};

    // Then come the takes, each a row of the numbers that take tells, under the same numbers;
    // the right number and whether the slate is right are counted anew each time.
    private static final int ROWS = 16;
    private static final int ROW = 16;
    private static final int STATE = ROWS + MOST_TAKES * ROW;
    private static final int SCENE = 0;
    private static final int LETTER = 1;
    private static final int RIGHT_NUMBER = 2;
    private static final int SAID_SCENE = 3;
    private static final int SAID_LETTER = 4;
    private static final int SAID_TAKE = 5;
    private static final int ON_CAMERA = 6;
    private static final int CAMERA_FROM = 7;
    private static final int LENGTH = 8;
    private static final int ON_SOUND = 9;
    private static final int SOUND_FROM = 10;
    private static final int FILE = 11;
    private static final int BEGAN = 12;
    private static final int STAMP = 13;
    private static final int CIRCLED = 14;
    private static final int FALSE_START = 15;
    private static final int SLATE_RIGHT = 16;

    // A command of a script is a group of five digits.
    private static final long GROUP_END = 100000L;

    private final State now = new State();
    // What scripts, simulations and questions of what would be work on.
    private final State copy = new State();
    private final Shelf past = new Shelf(MOST_REMEMBERED);
    private final Shelf slots = new Shelf(SLOTS);
    private final boolean[] saved = new boolean[SLOTS];
    private final Day text = new Day();
    private final Line shown = new Line();
    private int remembered;
    private int oldest;

    public TakeLog() {
    }

    // ---- text

    public int append(int c) throws IllegalArgumentException, IllegalStateException {
        if (c < 0 || c > 255) {
            throw new IllegalArgumentException("the character code is not 0 to 255");
        }
        if (text.isFull()) {
            throw new IllegalStateException("the text is full");
        }
        return text.add((char) c);
    }

    public int clearText() {
        return text.empty();
    }

    public int errorPosition() {
        return text.firstError();
    }

    public int load() throws IllegalStateException {
        if (text.firstError() != NONE) {
            throw new IllegalStateException("the text is not a day");
        }
        now.reset();
        forget();
        saved[0] = false;
        saved[1] = false;
        return obeyText();
    }

    // ---- what there is

    public int about(int what) throws IllegalArgumentException {
        if (what < 0 || what > LAST_ABOUT) {
            throw new IllegalArgumentException("what is not 0 to 16");
        }
        return now.total(what);
    }

    public int take(int i, int what) throws IndexOutOfBoundsException, IllegalArgumentException {
        if (!now.hasTake(i)) {
            throw new IndexOutOfBoundsException("there is no such take");
        }
        if (what < 0 || what > SLATE_RIGHT) {
            throw new IllegalArgumentException("what is not 0 to 16");
        }
        return now.told(i, what);
    }

    public int line(int i, int k) throws IndexOutOfBoundsException, IllegalArgumentException {
        if (!now.hasTake(i)) {
            throw new IndexOutOfBoundsException("there is no such take");
        }
        if (k < 0) {
            throw new IllegalArgumentException("the index is negative");
        }
        shown.write(now, i);
        return shown.signAt(k);
    }

    public int setting(int what) throws IllegalArgumentException {
        if (what < 0 || what > LAST_SETTING) {
            throw new IllegalArgumentException("what is not 0 to 3");
        }
        return now.chosen(what);
    }

    // ---- actions

    public int call(int scene, int letter) throws IllegalArgumentException {
        if (!isSetup(scene, letter)) {
            throw new IllegalArgumentException("there is no such setup");
        }
        remember();
        now.mean(scene, letter);
        return now.nextNumber();
    }

    public int board(int scene, int letter, int take) throws IllegalArgumentException {
        if (!isSetup(scene, letter) || take < 1 || take > 99) {
            throw new IllegalArgumentException("there is no such slate");
        }
        remember();
        now.write(scene, letter, take);
        return now.boardIsRight() ? 1 : 0;
    }

    public int right() {
        remember();
        now.writeRight();
        return now.nextNumber();
    }

    public int shoot(int seconds, boolean sound) throws IllegalArgumentException, IllegalStateException {
        if (!isLength(seconds)) {
            throw new IllegalArgumentException("the seconds are not 1 to 120");
        }
        if (!now.canFilm()) {
            throw new IllegalStateException("there are 24 takes, or the camera roll is used up");
        }
        remember();
        return now.film(seconds, sound);
    }

    public int newCamera() {
        remember();
        return now.loadCamera();
    }

    public int newSound() {
        remember();
        return now.loadSound();
    }

    public int circle(int i, boolean is) throws IndexOutOfBoundsException {
        if (!now.hasTake(i)) {
            throw new IndexOutOfBoundsException("there is no such take");
        }
        remember();
        now.mark(i, CIRCLED, is);
        return now.marked(CIRCLED);
    }

    public int falseStart(int i, boolean is) throws IndexOutOfBoundsException {
        if (!now.hasTake(i)) {
            throw new IndexOutOfBoundsException("there is no such take");
        }
        remember();
        now.mark(i, FALSE_START, is);
        return now.wrongSlates();
    }

    public int fix(int i) throws IndexOutOfBoundsException {
        if (!now.hasTake(i)) {
            throw new IndexOutOfBoundsException("there is no such take");
        }
        remember();
        return now.putRight(i) ? 1 : 0;
    }

    public int off(int seconds) throws IllegalArgumentException {
        if (seconds < -MOST_OFF || seconds > MOST_OFF) {
            throw new IllegalArgumentException("the seconds are not -99 to 99");
        }
        remember();
        return now.setOff(seconds);
    }

    public int set(int what, int v) throws IllegalArgumentException {
        if (!isSetting(what, v)) {
            throw new IllegalArgumentException("there is no such setting or value");
        }
        remember();
        return now.choose(what, v);
    }

    public int undo() throws IllegalStateException {
        if (remembered == 0) {
            throw new IllegalStateException("no state is remembered");
        }
        remembered--;
        past.fetch((oldest + remembered) % MOST_REMEMBERED, now);
        return remembered;
    }

    // ---- finding, and what would be

    public int find(int scene, int letter, int take, boolean said) {
        return said ? now.saidSo(scene, letter, take) : now.meantSo(scene, letter, take);
    }

    public int atCamera(int roll, int second) {
        for (int i = 0; i < now.takes(); i++) {
            if (now.of(i, ON_CAMERA) == roll && now.holds(i, CAMERA_FROM, second)) {
                return i;
            }
        }
        return NONE;
    }

    public int atSound(int roll, int second) {
        for (int i = 0; i < now.takes(); i++) {
            if (now.hasSound(i) && now.of(i, ON_SOUND) == roll && now.holds(i, SOUND_FROM, second)) {
                return i;
            }
        }
        return NONE;
    }

    public int atTime(int time) {
        for (int i = 0; i < now.takes(); i++) {
            if (now.holds(i, BEGAN, time)) {
                return i;
            }
        }
        return NONE;
    }

    public int byFile(int roll, int file) {
        for (int i = 0; i < now.takes(); i++) {
            if (now.hasSound(i) && now.of(i, ON_SOUND) == roll && now.of(i, FILE) == file) {
                return i;
            }
        }
        return NONE;
    }

    public int synced(int i) throws IndexOutOfBoundsException {
        if (!now.hasTake(i)) {
            throw new IndexOutOfBoundsException("there is no such take");
        }
        return now.soundFor(i, 0);
    }

    public int bestShift() {
        int best = 0;
        int most = now.keptSounds(0);
        int all = now.sounds();
        // -1, 1, -2, 2, ..: the one to be preferred comes first, so only more sounds make a better one.
        for (int k = 2; k <= 2 * MOST_OFF + 1 && most < all; k++) {
            int shift = k % 2 == 0 ? -(k / 2) : k / 2;
            int kept = now.keptSounds(shift);
            if (kept > most) {
                most = kept;
                best = shift;
            }
        }
        return best;
    }

    public int rolls(int seconds, int n) throws IllegalArgumentException {
        if (!isLength(seconds) || n < 1 || n > 99) {
            throw new IllegalArgumentException("the seconds are not 1 to 120, or the takes not 1 to 99");
        }
        int loaded = 0;
        int left = now.cameraLeft();
        for (int k = 0; k < n; k++) {
            if (left < seconds) {
                loaded++;
                left = now.chosen(CAMERA_SECONDS);
            }
            left -= Math.min(seconds, left);
        }
        return loaded;
    }

    public int ifFalse(int i) throws IndexOutOfBoundsException {
        if (!now.hasTake(i)) {
            throw new IndexOutOfBoundsException("there is no such take");
        }
        copy.copyFrom(now);
        copy.mark(i, FALSE_START, now.of(i, FALSE_START) == 0);
        return now.wrongSet() ^ copy.wrongSet();
    }

    public int scene(int scene, int what) throws IllegalArgumentException {
        if (what < 0 || what > 4) {
            throw new IllegalArgumentException("what is not 0 to 4");
        }
        return now.ofScene(scene, what);
    }

    // ---- scripts, simulations

    public int runScript(int n, long script) throws IllegalArgumentException {
        if (n < 1 || n > 3) {
            throw new IllegalArgumentException("the commands are not 1 to 3");
        }
        if (script < 0 || withoutGroups(script, n) > 0) {
            throw new IllegalArgumentException("the script is negative or too long");
        }
        copy.copyFrom(now);
        for (int k = 0; k < n; k++) {
            if (!succeeds((int) (withoutGroups(script, n - 1 - k) % GROUP_END))) {
                return k;
            }
        }
        return NONE;
    }

    public int simulate(long seed, int m) throws IllegalArgumentException {
        if (m < 1 || m > 80) {
            throw new IllegalArgumentException("the turns are not 1 to 80");
        }
        copy.copyFrom(now);
        long x = seed;
        for (int k = 0; k < m; k++) {
            x = x * 6364136223846793005L + 1442695040888963407L;
            doTurn((int) (x >>> 33));
        }
        return 1000 * copy.wrongSlates() + copy.unlikeSounds();
    }

    // ---- save slots

    public int save(int slot) throws IndexOutOfBoundsException {
        if (slot < 0 || slot >= SLOTS) {
            throw new IndexOutOfBoundsException("there is no such save slot");
        }
        slots.store(slot, now);
        saved[slot] = true;
        return now.takes();
    }

    public int restore(int slot) throws IndexOutOfBoundsException, IllegalStateException {
        if (slot < 0 || slot >= SLOTS) {
            throw new IndexOutOfBoundsException("there is no such save slot");
        }
        if (!saved[slot]) {
            throw new IllegalStateException("nothing has been saved in this slot");
        }
        slots.fetch(slot, now);
        forget();
        return now.takes();
    }

    // ---- what is in its range

    private static boolean isSetup(int scene, int letter) {
        return scene >= 1 && scene <= 99 && letter >= 0 && letter <= LAST_LETTER;
    }

    private static boolean isLength(int seconds) {
        return seconds >= 1 && seconds <= MOST_SECONDS;
    }

    private static boolean isSetting(int what, int v) {
        return what >= 0 && what <= LAST_SETTING && v >= LOWEST_SETTING[what] && v <= HIGHEST_SETTING[what];
    }

    // ---- remembered states

    private void remember() {
        if (remembered == MOST_REMEMBERED) {
            oldest = (oldest + 1) % MOST_REMEMBERED;
            remembered--;
        }
        past.store((oldest + remembered) % MOST_REMEMBERED, now);
        remembered++;
    }

    private void forget() {
        remembered = 0;
        oldest = 0;
    }

    // ---- commands of the text, of scripts and of simulations

    /** Does the commands of a text that is a day; answers how many of them were left out. */
    private int obeyText() {
        int leftOut = 0;
        text.startReading();
        for (int k = 0; k < Day.MOST && text.hasMore() && text.readCommand(); k++) {
            if (!obeyCommand()) {
                leftOut++;
            }
        }
        return leftOut;
    }

    /** Does the command of the text that was read last; false if it is left out. */
    private boolean obeyCommand() {
        switch (text.command) {
            case 'c':
                now.mean(text.scene, text.letter);
                return true;
            case 'b':
                now.write(text.scene, text.letter, text.number);
                return true;
            case 'r':
                now.writeRight();
                return true;
            case 't':
            case 'm':
                return now.tryToFilm(text.number, text.command == 't');
            case 'n':
                now.loadCamera();
                return true;
            case 's':
                now.loadSound();
                return true;
            case 'f':
                return now.mark(text.number, FALSE_START, true);
            case 'o':
                return now.mark(text.number, CIRCLED, true);
            default:
                now.setOff(text.number - 50);
                return true;
        }
    }

    /** A script without some of its lowest groups. */
    private static long withoutGroups(long script, int groups) {
        long rest = script;
        for (int k = 0; k < groups; k++) {
            rest /= GROUP_END;
        }
        return rest;
    }

    /** Does a command of a script on the copy; false if it fails. */
    private boolean succeeds(int group) {
        int second = group / 1000 % 10;
        int high = group / 100 % 100;
        int low = group % 100;
        switch (group / 10000) {
            case 1:
                return second <= 1 && copy.tryToFilm(group % 1000, second == 1);
            case 2:
                return high == 0 && low <= 1 && loadRoll(low == 1);
            case 3:
                return low <= 1 && copy.mark(high, FALSE_START, low == 1);
            case 4:
                return isSetup(high, low) && copy.mean(high, low);
            case 5:
                return high == 0 && low == 0 && copy.writeRight();
            case 6:
                return low <= 1 && copy.hasTake(high) && copy.isRight(high) == (low == 1);
            case 7:
                return high == 0 && copy.wrongSlates() <= low;
            case 8:
                return copy.hasTake(high) && copy.hasTake(low) && copy.soundFor(high, 0) == low;
            case 9:
                return second == 0 && copy.cameraLeft() >= group % 1000;
            default:
                return false;
        }
    }

    /** Loads the next roll of the copy. */
    private boolean loadRoll(boolean forSound) {
        if (forSound) {
            copy.loadSound();
        } else {
            copy.loadCamera();
        }
        return true;
    }

    /** Does a turn of a simulation on the copy. */
    private void doTurn(int r) {
        int rest = r / 16;
        switch (r % 16) {
            case 0:
                copy.mean(1 + rest % 4, r / 64 % 3);
                break;
            case 1:
                copy.writeRight();
                break;
            case 2:
                copy.write(1 + rest % 4, r / 64 % 3, 1 + r / 256 % 5);
                break;
            case 3:
                copy.loadCamera();
                break;
            case 4:
                copy.loadSound();
                break;
            case 5:
                copy.mark(rest % MOST_TAKES, FALSE_START, true);
                break;
            case 6:
                copy.mark(rest % MOST_TAKES, CIRCLED, true);
                break;
            case 7:
                copy.setOff(rest % 199 - MOST_OFF);
                break;
            case 8:
                copy.putRight(rest % MOST_TAKES);
                break;
            default:
                copy.tryToFilm(1 + r / 32 % MOST_SECONDS, rest % 2 == 0);
                break;
        }
    }

    /** Everything but the text and the save slots, as one row of numbers. */
    private static final class State {
        private final int[] cells = new int[STATE];

        State() {
            reset();
        }

        void reset() {
            Arrays.fill(cells, 0);
            cells[MEANT_SCENE] = 1;
            cells[BOARD_SCENE] = 1;
            cells[BOARD_TAKE] = 1;
            cells[CAMERA_ROLL] = 1;
            cells[SOUND_ROLL] = 1;
            cells[SETTINGS + CAMERA_SECONDS] = 300;
            cells[SETTINGS + SOUND_SECONDS] = 900;
            cells[SETTINGS + PAUSE] = 10;
            cells[SETTINGS + BOARD_GOES_ON] = 1;
        }

        void copyFrom(State other) {
            System.arraycopy(other.cells, 0, cells, 0, STATE);
        }

        // ---- numbers

        int takes() {
            return cells[TAKES];
        }

        boolean hasTake(int i) {
            return i >= 0 && i < cells[TAKES];
        }

        /** A number of the row of a take that is there. */
        int of(int i, int what) {
            int at = ROWS + i * ROW + what;
            return at < ROWS || at >= STATE ? NONE : cells[at];
        }

        private void put(int i, int what, int v) {
            int at = ROWS + i * ROW + what;
            if (at >= ROWS && at < STATE) {
                cells[at] = v;
            }
        }

        int chosen(int what) {
            int at = SETTINGS + what;
            return at < SETTINGS || at > SETTINGS + LAST_SETTING ? NONE : cells[at];
        }

        int cameraLeft() {
            return Math.max(0, chosen(CAMERA_SECONDS) - cells[CAMERA_USED]);
        }

        boolean hasSound(int i) {
            return of(i, ON_SOUND) != NONE;
        }

        /** What the method take tells of a take. */
        int told(int i, int what) {
            switch (what) {
                case RIGHT_NUMBER:
                    return rightNumber(i);
                case SLATE_RIGHT:
                    return isRight(i) ? 1 : 0;
                default:
                    return of(i, what);
            }
        }

        /** What the method about tells. */
        int total(int what) {
            switch (what) {
                case 12:
                    return wrongSlates();
                case 13:
                    return marked(CIRCLED);
                case 14:
                    return circledSeconds();
                case 15:
                    return marked(FALSE_START);
                case 16:
                    return unlikeSounds();
                default:
                    return what < 0 || what > LAST_HEAD ? NONE : cells[what];
            }
        }

        /** How many takes are circled, or are false starts. */
        int marked(int what) {
            int count = 0;
            for (int i = 0; i < takes(); i++) {
                count += of(i, what);
            }
            return count;
        }

        private int circledSeconds() {
            int seconds = 0;
            for (int i = 0; i < takes(); i++) {
                seconds += of(i, CIRCLED) * of(i, LENGTH);
            }
            return seconds;
        }

        /** What the method scene tells. */
        int ofScene(int scene, int what) {
            int count = 0;
            int circled = 0;
            int seconds = 0;
            int letters = 0;
            int circledLetters = 0;
            for (int i = 0; i < takes(); i++) {
                if (of(i, SCENE) == scene) {
                    count++;
                    circled += of(i, CIRCLED);
                    seconds += of(i, LENGTH);
                    letters |= 1 << of(i, LETTER);
                    circledLetters |= of(i, CIRCLED) << of(i, LETTER);
                }
            }
            switch (what) {
                case 0:
                    return count;
                case 1:
                    return circled;
                case 2:
                    return Integer.bitCount(letters);
                case 3:
                    return seconds;
                default:
                    return Integer.bitCount(letters & ~circledLetters);
            }
        }

        // ---- slates

        /** The right number of a take of a setup that had just the first takes ahead of it. */
        private int numberBehind(int first, int scene, int letter) {
            int number = 1;
            for (int i = 0; i < first; i++) {
                if (of(i, SCENE) == scene && of(i, LETTER) == letter && of(i, FALSE_START) == 0) {
                    number++;
                }
            }
            return number;
        }

        private int rightNumber(int i) {
            return numberBehind(i, of(i, SCENE), of(i, LETTER));
        }

        int nextNumber() {
            return numberBehind(takes(), cells[MEANT_SCENE], cells[MEANT_LETTER]);
        }

        boolean boardIsRight() {
            return cells[BOARD_SCENE] == cells[MEANT_SCENE] && cells[BOARD_LETTER] == cells[MEANT_LETTER]
                    && cells[BOARD_TAKE] == nextNumber();
        }

        private boolean said(int i, int scene, int letter, int take) {
            return of(i, SAID_SCENE) == scene && of(i, SAID_LETTER) == letter && of(i, SAID_TAKE) == take;
        }

        boolean isRight(int i) {
            return said(i, of(i, SCENE), of(i, LETTER), rightNumber(i));
        }

        /** The takes whose slates are wrong, bit i for the take i. */
        int wrongSet() {
            int set = 0;
            for (int i = 0; i < takes(); i++) {
                if (!isRight(i)) {
                    set |= 1 << i;
                }
            }
            return set;
        }

        int wrongSlates() {
            return Integer.bitCount(wrongSet());
        }

        int saidSo(int scene, int letter, int take) {
            for (int i = 0; i < takes(); i++) {
                if (said(i, scene, letter, take)) {
                    return i;
                }
            }
            return NONE;
        }

        int meantSo(int scene, int letter, int take) {
            for (int i = 0; i < takes(); i++) {
                if (of(i, SCENE) == scene && of(i, LETTER) == letter && of(i, FALSE_START) == 0
                        && rightNumber(i) == take) {
                    return i;
                }
            }
            return NONE;
        }

        // ---- clocks

        /** Whether a place is in a take that begins at the place that its row tells. */
        boolean holds(int i, int from, int place) {
            return place >= of(i, from) && place < of(i, from) + of(i, LENGTH);
        }

        /** The overlap of a take from begin to end and the sound of the take j, with all stamps shifted. */
        private int overlap(int begin, int end, int j, int shift) {
            int from = of(j, STAMP) + shift;
            int to = from + of(j, LENGTH);
            int seconds = (to < end ? to : end) - (from > begin ? from : begin);
            return seconds > 0 ? seconds : 0;
        }

        /** The take whose sound the clocks give to a take, with all stamps shifted. */
        int soundFor(int i, int shift) {
            int begin = of(i, BEGAN);
            int end = begin + of(i, LENGTH);
            int best = NONE;
            int most = 0;
            for (int j = 0; j < takes(); j++) {
                int seconds = hasSound(j) ? overlap(begin, end, j, shift) : 0;
                if (seconds > most) {
                    most = seconds;
                    best = j;
                }
            }
            return best;
        }

        /** Whether a stamp that is shifted so far still leaves a take something of its own sound. */
        private boolean meetsOwn(int i, int shift) {
            int off = of(i, STAMP) - of(i, BEGAN) + shift;
            return Math.abs(off) < of(i, LENGTH);
        }

        /** How many takes have sound. */
        int sounds() {
            int count = 0;
            for (int i = 0; i < takes(); i++) {
                if (hasSound(i)) {
                    count++;
                }
            }
            return count;
        }

        /** To how many takes with sound the clocks give their own, with all stamps shifted. */
        int keptSounds(int shift) {
            int count = 0;
            for (int i = 0; i < takes(); i++) {
                // Most shifts end at meetsOwn, which is cheaper than a look at all sounds.
                if (hasSound(i) && meetsOwn(i, shift) && soundFor(i, shift) == i) {
                    count++;
                }
            }
            return count;
        }

        /** The takes to which the clocks give another sound than their own. */
        int unlikeSounds() {
            int count = 0;
            for (int i = 0; i < takes(); i++) {
                if (soundFor(i, 0) != (hasSound(i) ? i : NONE)) {
                    count++;
                }
            }
            return count;
        }

        // ---- changes

        boolean mean(int scene, int letter) {
            cells[MEANT_SCENE] = scene;
            cells[MEANT_LETTER] = letter;
            return true;
        }

        void write(int scene, int letter, int take) {
            cells[BOARD_SCENE] = scene;
            cells[BOARD_LETTER] = letter;
            cells[BOARD_TAKE] = take;
        }

        boolean writeRight() {
            write(cells[MEANT_SCENE], cells[MEANT_LETTER], nextNumber());
            return true;
        }

        boolean canFilm() {
            return takes() < MOST_TAKES && cameraLeft() > 0;
        }

        /** Shoots a take if that can be; false if it can't. */
        boolean tryToFilm(int seconds, boolean sound) {
            if (!isLength(seconds) || !canFilm()) {
                return false;
            }
            film(seconds, sound);
            return true;
        }

        /** Shoots a take, which must be possible, and answers its length. */
        int film(int seconds, boolean sound) {
            int i = takes();
            int length = Math.min(seconds, cameraLeft());
            put(i, SCENE, cells[MEANT_SCENE]);
            put(i, LETTER, cells[MEANT_LETTER]);
            put(i, SAID_SCENE, cells[BOARD_SCENE]);
            put(i, SAID_LETTER, cells[BOARD_LETTER]);
            put(i, SAID_TAKE, cells[BOARD_TAKE]);
            put(i, ON_CAMERA, cells[CAMERA_ROLL]);
            put(i, CAMERA_FROM, cells[CAMERA_USED]);
            put(i, LENGTH, length);
            put(i, BEGAN, cells[TIME]);
            put(i, STAMP, cells[TIME] + cells[SOUND_OFF]);
            put(i, CIRCLED, 0);
            put(i, FALSE_START, 0);
            record(i, sound && chosen(SOUND_SECONDS) - cells[SOUND_USED] >= length);
            cells[CAMERA_USED] += length;
            cells[TIME] += length + chosen(PAUSE);
            cells[TAKES] = i + 1;
            if (chosen(BOARD_GOES_ON) == 1) {
                cells[BOARD_TAKE] = Math.min(99, cells[BOARD_TAKE] + 1);
            }
            return length;
        }

        /** Writes down the sound of a new take, or that it has none. */
        private void record(int i, boolean sound) {
            put(i, FILE, sound ? latestFile() + 1 : NONE);
            put(i, ON_SOUND, sound ? cells[SOUND_ROLL] : NONE);
            put(i, SOUND_FROM, sound ? cells[SOUND_USED] : NONE);
            if (sound) {
                cells[SOUND_USED] += of(i, LENGTH);
            }
        }

        /** The latest file of the sound roll; 0 if there is none yet. */
        private int latestFile() {
            int file = 0;
            for (int i = 0; i < takes(); i++) {
                if (of(i, ON_SOUND) == cells[SOUND_ROLL]) {
                    file = of(i, FILE);
                }
            }
            return file;
        }

        int loadCamera() {
            cells[CAMERA_ROLL]++;
            cells[CAMERA_USED] = 0;
            return cells[CAMERA_ROLL];
        }

        int loadSound() {
            cells[SOUND_ROLL]++;
            cells[SOUND_USED] = 0;
            return cells[SOUND_ROLL];
        }

        /** Says whether a take is circled, or a false start; false if there is no such take. */
        boolean mark(int i, int what, boolean is) {
            if (!hasTake(i)) {
                return false;
            }
            put(i, what, is ? 1 : 0);
            return true;
        }

        /** Puts the slate of a take right; false if it is right already, or there is no such take. */
        boolean putRight(int i) {
            if (!hasTake(i) || isRight(i)) {
                return false;
            }
            put(i, SAID_SCENE, of(i, SCENE));
            put(i, SAID_LETTER, of(i, LETTER));
            put(i, SAID_TAKE, rightNumber(i));
            return true;
        }

        int setOff(int seconds) {
            int before = cells[SOUND_OFF];
            cells[SOUND_OFF] = seconds;
            return before;
        }

        int choose(int what, int v) {
            int before = chosen(what);
            int at = SETTINGS + what;
            if (at >= SETTINGS && at <= SETTINGS + LAST_SETTING) {
                cells[at] = v;
            }
            return before;
        }
    }

    /** Places for states, all in one array, so that no call has to make one. */
    private static final class Shelf {
        private final int[] cells;
        private final int places;

        Shelf(int places) {
            this.places = places;
            cells = new int[places * STATE];
        }

        void store(int place, State state) {
            if (place >= 0 && place < places) {
                System.arraycopy(state.cells, 0, cells, place * STATE, STATE);
            }
        }

        void fetch(int place, State state) {
            if (place >= 0 && place < places) {
                System.arraycopy(cells, place * STATE, state.cells, 0, STATE);
            }
        }
    }

    /** The text buffer, and the reading of the commands in it. */
    private static final class Day {
        private static final int MOST = 120;

        private final char[] signs = new char[MOST];
        private int length;
        private int at;
        // The command that was read last.
        private int command;
        private int scene;
        private int letter;
        private int number;

        boolean isFull() {
            return length >= MOST;
        }

        int add(char c) {
            if (length < MOST) {
                signs[length] = c;
                length++;
            }
            return length;
        }

        int empty() {
            int before = length;
            length = 0;
            return before;
        }

        int firstError() {
            if (!startReading()) {
                return at;
            }
            for (int k = 0; k < MOST && hasMore(); k++) {
                if (!readCommand()) {
                    return at;
                }
            }
            return NONE;
        }

        /** Reads the letter T; false if it is not there. */
        boolean startReading() {
            at = 0;
            return readSign('T', 'T') != NONE;
        }

        boolean hasMore() {
            return at < length;
        }

        /** Reads a command; false if it is not one, and then at is the error position. */
        boolean readCommand() {
            int start = at;
            command = readSign('a', 'z');
            switch (command) {
                case 'c':
                    return readSetup();
                case 'b':
                    return readSetup() && readNumber(10, 1, 99);
                case 't':
                case 'm':
                    return readNumber(100, 1, MOST_SECONDS);
                case 'f':
                case 'o':
                    return readNumber(10, 0, MOST_TAKES - 1);
                case 'v':
                    return readNumber(10, 0, 99);
                case 'r':
                case 'n':
                case 's':
                    return true;
                default:
                    at = start;
                    return false;
            }
        }

        private boolean readSetup() {
            if (!readNumber(10, 1, 99)) {
                return false;
            }
            scene = number;
            letter = readSign('A', 'Z') - 'A';
            return letter >= 0;
        }

        /** Reads a number whose first digit has this weight; false at a digit with which none begins. */
        private boolean readNumber(int highest, int lowest, int most) {
            number = 0;
            for (int weight = highest; weight > 0; weight /= 10) {
                int digit = readSign('0', '9') - '0';
                if (digit < 0) {
                    return false;
                }
                number += digit * weight;
                if (number > most || number + weight - 1 < lowest) {
                    at--;
                    return false;
                }
            }
            return true;
        }

        /** Reads a character from lowest to highest; NONE, and nothing is read, if there is another. */
        private int readSign(int lowest, int highest) {
            if (at < 0 || at >= length || at >= MOST || signs[at] < lowest || signs[at] > highest) {
                return NONE;
            }
            int sign = signs[at];
            at++;
            return sign;
        }
    }

    /** The line of a take. */
    private static final class Line {
        // Far more than the longest line has, whatever the numbers of the rolls are.
        private static final int MOST = 80;

        private final char[] signs = new char[MOST];
        private int length;

        void write(State state, int i) {
            length = 0;
            addNumber(state.of(i, SAID_SCENE));
            add((char) ('A' + state.of(i, SAID_LETTER)));
            add('/');
            addNumber(state.of(i, SAID_TAKE));
            addIf(state.of(i, CIRCLED) == 1, '*');
            addIf(!state.isRight(i), '?');
            addIf(state.of(i, FALSE_START) == 1, 'x');
            addPlace('c', state.of(i, ON_CAMERA), state.of(i, CAMERA_FROM));
            if (state.hasSound(i)) {
                addPlace('s', state.of(i, ON_SOUND), state.of(i, FILE));
            }
        }

        int signAt(int k) {
            return k < 0 || k >= length || k >= MOST ? NONE : signs[k];
        }

        private void addPlace(char kind, int roll, int number) {
            add(' ');
            add(kind);
            addNumber(roll);
            add(':');
            addNumber(number);
        }

        private void addNumber(int number) {
            for (int weight = 1000000000; weight > 0; weight /= 10) {
                if (weight == 1 || number >= weight) {
                    add((char) ('0' + number / weight % 10));
                }
            }
        }

        private void addIf(boolean is, char c) {
            if (is) {
                add(c);
            }
        }

        private void add(char c) {
            if (length < MOST) {
                signs[length] = c;
                length++;
            }
        }
    }
}
