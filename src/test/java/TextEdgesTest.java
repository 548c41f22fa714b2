/** TEXT, promises 2 to 5: the sentences that name a border, and each character at each place. */
public final class TextEdgesTest {
    private static final String DIGITS = "0123456789";
    private static final String NO_ZERO = "123456789";
    private static final String LETTERS = "ABCDEFGHIJKLMNOPQRSTUVWXYZ";
    private static final String COMMANDS = "cbrtmnsfov";

    public static void main(String[] args) {
        lengths();
        eachCharacterAtEachPlace();
        fullTexts();
        eachCommandIsItsMethod();
        leftOut();
        asNew();
        Check.end("TextEdgesTest");
    }

    /** "c: character code, 0 to 255"; "at most 120 characters"; "the new length", "the previous length". */
    private static void lengths() {
        TakeLog log = new TakeLog();
        Check.due("clearText of the empty text", log.clearText(), 0);
        for (int c = 0; c < 256; c++) {
            Check.due("append " + c, log.append(c), c % 120 + 1);
            if (c % 120 == 119) {
                Check.due("append to 120 characters", Check.outcome(() -> log.append('T')),
                        "throws.IllegalStateException");
                Check.due("clearText of the full text", log.clearText(), 120);
            }
        }
        Check.due("clearText", log.clearText(), 256 - 240);
        Check.due("clearText again", log.clearText(), 0);
    }

    /** The text is a beginning, filled up behind the T to a length, and then c. */
    private static void place(String beginning, String allowed, String ends, int length) {
        String fill = beginning.isEmpty() ? "" : "r".repeat(Math.max(0, length - beginning.length() - 1));
        String start = beginning.isEmpty() ? "" : "T" + fill + beginning.substring(1);
        for (int c = 0; c < 256; c++) {
            TakeLog log = new TakeLog();
            Check.type(log, start);
            log.append(c);
            int want = allowed.indexOf(c) < 0 ? start.length() : ends.indexOf(c) < 0 ? start.length() + 1 : -1;
            Check.due("errorPosition of " + start + " and " + c, log.errorPosition(), want);
            if (want != TakeLog.NONE) {
                Check.due("load of " + start + " and " + c, Check.outcome(log::load), "throws.IllegalStateException");
            } else {
                Check.due("load of " + start + " and " + c, Check.outcome(log::load).startsWith("throws") ? 1 : 0, 0);
            }
        }
    }

    /** The same for a text as short as it can be, and for one whose last character is the 120th. */
    private static void places(String allowed, String ends, String... beginnings) {
        for (String beginning : beginnings) {
            place(beginning, allowed, ends, 0);
            place(beginning, allowed, ends, 120);
        }
    }

    /** "The error position is the index of the first character that these rules do not allow at its place ..". */
    private static void eachCharacterAtEachPlace() {
        places("T", "T", "");
        places(COMMANDS, "rns", "T", "Tr", "Tn", "Ts", "Tc01A", "Tc99Z", "Tb01A01", "Tb99Z99", "Tt001", "Tt120", "Tm001",
                "Tm120", "Tf00", "Tf23", "To00", "To23", "Tv00", "Tv99");
        for (String kind : new String[] {"Tc", "Tb"}) {
            places(DIGITS, "", kind, kind + "1", kind + "5", kind + "9");
            places(NO_ZERO, "", kind + "0");
        }
        places(LETTERS, LETTERS, "Tc01", "Tc10", "Tc99");
        places(LETTERS, "", "Tb01", "Tb10", "Tb99");
        places(DIGITS, "", "Tb01A", "Tb99Z");
        places(NO_ZERO, NO_ZERO, "Tb01A0", "Tb99Z0");
        places(DIGITS, DIGITS, "Tb01A1", "Tb99Z9");
        for (String kind : new String[] {"Tt", "Tm"}) {
            places("01", "", kind);
            places(DIGITS, "", kind + "0");
            places(NO_ZERO, NO_ZERO, kind + "00");
            places(DIGITS, DIGITS, kind + "01", kind + "09", kind + "10", kind + "11");
            places("012", "", kind + "1");
            places("0", "0", kind + "12");
        }
        for (String kind : new String[] {"Tf", "To"}) {
            places("012", "", kind);
            places(DIGITS, DIGITS, kind + "0", kind + "1");
            places("0123", "0123", kind + "2");
        }
        places(DIGITS, "", "Tv");
        places(DIGITS, DIGITS, "Tv0", "Tv5", "Tv9");
    }

    private static void error(String text, int want) {
        TakeLog log = new TakeLog();
        Check.type(log, text);
        Check.due("errorPosition of " + text, log.errorPosition(), want);
        Check.due("clearText of " + text, log.clearText(), text.length());
    }

    /** "if the text ends too soon, it is the length of the text": 0 to 120; and the first character that is wrong. */
    private static void fullTexts() {
        error("", 0);
        for (int k = 0; k < 119; k++) {
            error("T" + "n".repeat(k), -1);
            error("T" + "n".repeat(k) + "c", k + 2);
        }
        for (int k = 0; k < 120; k++) {
            String wrongAtK = "T".repeat(k == 0 ? 0 : 1) + "s".repeat(Math.max(0, k - 1)) + "?";
            error(wrongAtK, k);
            error(wrongAtK + "T?".repeat((120 - wrongAtK.length()) / 2), k);
        }
    }

    private static void same(String text, TakeLog byCalls) {
        Check.due("the state behind " + text, Check.state(Check.loaded(text)), Check.state(byCalls));
    }

    /** The commands with the lowest and the highest numbers that are allowed. */
    private static void eachCommandIsItsMethod() {
        for (int scene : new int[] {1, 9, 10, 99}) {
            for (int letter = 0; letter < 26; letter++) {
                String setup = scene / 10 + "" + scene % 10 + (char) ('A' + letter);
                TakeLog meant = new TakeLog();
                meant.call(scene, letter);
                same("Tc" + setup, meant);
                TakeLog said = new TakeLog();
                said.board(scene, letter, 1);
                same("Tb" + setup + "01", said);
                said.board(scene, letter, 99);
                same("Tb" + setup + "99", said);
            }
        }
        for (int seconds = 1; seconds <= 120; seconds++) {
            String three = seconds / 100 + "" + seconds / 10 % 10 + seconds % 10;
            TakeLog sound = new TakeLog();
            sound.shoot(seconds, true);
            same("Tt" + three, sound);
            TakeLog silent = new TakeLog();
            silent.shoot(seconds, false);
            same("Tm" + three, silent);
        }
        for (int n = 0; n <= 99; n++) {
            TakeLog log = new TakeLog();
            log.off(n - 50);
            same("Tv" + n / 10 + n % 10, log);
            Check.due("v with " + n, log.about(11), n - 50);
        }
        for (int i = 0; i < 24; i++) {
            TakeLog log = Check.loaded("T" + "m002".repeat(24));
            String two = i / 10 + "" + i % 10;
            log.falseStart(i, true);
            same("T" + "m002".repeat(24) + "f" + two, log);
            log.circle(i, true);
            same("T" + "m002".repeat(24) + "o" + two + "f" + two + "o" + two, log);
        }
        TakeLog rest = new TakeLog();
        rest.newCamera();
        rest.newCamera();
        rest.newSound();
        rest.call(5, 5);
        rest.right();
        same("Tnnsc05Fr", rest);
    }

    private static void loads(String text, int want, int takes) {
        TakeLog log = new TakeLog();
        Check.type(log, text);
        Check.due("load of " + text, log.load(), want);
        Check.due("the takes behind " + text, log.about(0), takes);
        Check.due("load of " + text + " again", log.load(), want);
        Check.due("the text is kept", log.clearText(), text.length());
    }

    /** "Commands that would throw an exception are left out", and "the number of commands that are left out". */
    private static void leftOut() {
        loads("T", 0, 0);
        loads("T" + "f00".repeat(39) + "ss", 39, 0);
        loads("T" + "o23".repeat(39), 39, 0);
        loads("T" + "t001".repeat(24), 0, 24);
        loads("T" + "t001".repeat(25), 1, 24);
        loads("T" + "m001".repeat(29), 5, 24);
        loads("T" + "t001".repeat(23) + "f22f23o22o23", 2, 23);
        loads("T" + "t001".repeat(24) + "f22f23o22o23", 0, 24);
        loads("Tt120t120t060", 0, 3);
        loads("Tt120t120t060t001", 1, 3);
        loads("Tt120t120t059m002m001", 1, 4);
        loads("Tt120t120t060m001m120nt001", 2, 4);
        loads("To00t001o00o01f01f00", 3, 1);
        Check.due("a take cut short is not left out", Check.loaded("Tt120t120t059t120").take(3, 8), 1);
    }

    /** A log in which each number of the state is another than at first, with remembered states and both slots in use. */
    private static TakeLog muchDone() {
        TakeLog log = new TakeLog();
        log.set(0, 61);
        log.set(1, 62);
        log.set(2, 0);
        log.set(3, 0);
        log.call(98, 24);
        log.board(97, 23, 96);
        log.off(-99);
        log.newCamera();
        log.newSound();
        log.shoot(59, true);
        log.shoot(120, true);
        log.circle(0, true);
        log.falseStart(0, true);
        log.save(0);
        log.newCamera();
        log.save(1);
        return log;
    }

    /** "Makes everything as in a new object ..": no state is remembered, both slots are empty, the text is kept. */
    private static void asNew() {
        for (String text : new String[] {"T", "Trr", "T" + "n".repeat(119), "Tt001t002f00o01", "T" + "o00".repeat(39)}) {
            TakeLog fresh = new TakeLog();
            TakeLog used = muchDone();
            Check.type(fresh, text);
            Check.type(used, text);
            Check.due("load of " + text, used.load(), fresh.load());
            Check.due("the state behind " + text, Check.everything(used), Check.everything(fresh));
            Check.due("undo", Check.outcome(used::undo), "throws.IllegalStateException");
            Check.due("restore(0)", Check.outcome(() -> used.restore(0)), "throws.IllegalStateException");
            Check.due("restore(1)", Check.outcome(() -> used.restore(1)), "throws.IllegalStateException");
            Check.due("the hidden state behind " + text, Check.drained(used), Check.drained(fresh));
        }
        TakeLog refused = muchDone();
        refused.append('t');
        Check.due("load of t", Check.outcome(refused::load), "throws.IllegalStateException");
        TakeLog twin = muchDone();
        twin.append('t');
        Check.due("a load that throws changes nothing", Check.drained(refused), Check.drained(twin));
    }
}
