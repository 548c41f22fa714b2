/** TAKES, ROLLS, CLOCKS, SETTINGS, LINES and the actions (promises 1, 6 to 20): the sentences that name a border. */
public final class TakeEdgesTest {
    public static void main(String[] args) {
        noTake();
        setupsAndBoards();
        rightNumbers();
        rightSlates();
        lengths();
        rollsUsedFurther();
        soundThatFits();
        longSoundRolls();
        files();
        time();
        theBoardGoesOn();
        settings();
        stamps();
        marks();
        fixing();
        lines();
        longestLines();
        fullTotals();
        manyCalls();
        Check.end("TakeEdgesTest");
    }

    private static String outcome(Check.Call call) {
        return Check.outcome(call);
    }

    /** "at first the scene 1 with the letter 0", "the roll 1", "0", and the settings; no take is there. */
    private static void noTake() {
        TakeLog log = new TakeLog();
        Check.about(log, "new", 0, 1, 0, 1, 0, 1, 1, 0, 1, 0, 0, 0, 0, 0, 0, 0, 0);
        int[] first = {300, 900, 10, 1};
        for (int what = 0; what < 4; what++) {
            Check.due("setting(" + what + ")", log.setting(what), first[what]);
        }
        for (int i = -1; i <= 24; i++) {
            int none = i;
            Check.due("take(" + i + ", 0)", outcome(() -> log.take(none, 0)), "throws.IndexOutOfBoundsException");
        }
        Check.due("right of the first take", log.right(), 1);
        Check.due("the board at first is right", new TakeLog().board(1, 0, 1), 1);
    }

    /** "scene 1 to 99", "letter 0 to 25", "take 1 to 99", each value of them. */
    private static void setupsAndBoards() {
        TakeLog log = new TakeLog();
        for (int scene = 1; scene <= 99; scene++) {
            for (int letter = 0; letter <= 25; letter++) {
                Check.due("call(" + scene + ", " + letter + ")", log.call(scene, letter), 1);
                Check.due("board(" + scene + ", " + letter + ", 1)", log.board(scene, letter, 1), 1);
                Check.about(log, "the board", 0, scene, letter, scene, letter, 1);
            }
        }
        for (int take = 1; take <= 99; take++) {
            Check.due("board take " + take, log.board(99, 25, take), take == 1 ? 1 : 0);
            Check.due("the board's take", log.about(5), take);
        }
    }

    /** "The right number of a take is 1, and how many earlier takes of the same meant setup are no false starts." */
    private static void rightNumbers() {
        TakeLog log = new TakeLog();
        for (int k = 0; k < 24; k++) {
            Check.due("call ahead of the take " + k, log.call(1, 0), k + 1);
            Check.due("right ahead of the take " + k, log.right(), k + 1);
            log.shoot(1, false);
        }
        for (int i = 0; i < 24; i++) {
            Check.due("the right number of " + i, log.take(i, 2), i + 1);
        }
        Check.due("call behind 24 takes", log.call(1, 0), 25);
        Check.due("board 24", log.board(1, 0, 24), 0);
        Check.due("board 26", log.board(1, 0, 26), 0);
        Check.due("board 25", log.board(1, 0, 25), 1);
        Check.due("a false start at the end changes no other", log.falseStart(23, true), 0);
        Check.due("its own right number", log.take(23, 2), 24);
        Check.due("call behind it", log.call(1, 0), 24);
        Check.due("a false start at the beginning changes all others", log.falseStart(0, true), 23);
        Check.due("the right number of the first", log.take(0, 2), 1);
        Check.due("the right number of the second", log.take(1, 2), 1);
        Check.due("the right number of the last", log.take(23, 2), 23);
        for (int i = 0; i < 24; i++) {
            log.falseStart(i, true);
        }
        for (int i = 0; i < 24; i++) {
            Check.due("behind false starts alone " + i, log.take(i, 2), 1);
        }
        Check.due("call behind 24 false starts", log.call(1, 0), 1);
        Check.due("another scene", log.call(2, 0), 1);
        Check.due("another letter", log.call(1, 1), 1);
        // Meant 50M, 49M, 51M, 50L, 50N, 50M; said 50M each time.
        TakeLog mixed = Check.loaded("Tb50M01c50Mt001c49Mt001c51Mt001c50Lt001c50Nt001c50Mt001");
        int[] numbers = {1, 1, 1, 1, 1, 2};
        for (int i = 0; i < 6; i++) {
            Check.due("just those that were meant so " + i, mixed.take(i, 2), numbers[i]);
        }
        Check.due("the next one", mixed.call(50, 12), 3);
        Check.due("another said so counts nothing", mixed.call(50, 13), 2);
    }

    /** "Its slate is right if the board said the meant setup and the right number of now (also of a false start)". */
    private static void rightSlates() {
        int[][] said = {{50, 12, 2}, {49, 12, 2}, {51, 12, 2}, {50, 11, 2}, {50, 13, 2}, {50, 12, 1}, {50, 12, 3},
            {12, 12, 2}, {50, 2, 2}, {2, 12, 50}, {99, 25, 99}, {1, 0, 1}};
        for (int[] slate : said) {
            TakeLog log = Check.loaded("Tc50Mrt001");
            int due = slate == said[0] ? 1 : 0;
            Check.due("board " + slate[0] + " " + slate[1] + " " + slate[2],
                    log.board(slate[0], slate[1], slate[2]), due);
            log.shoot(1, false);
            Check.due("its slate", log.take(1, 16), due);
            Check.due("the wrong slates", log.about(12), 1 - due);
            Check.due("its line", Check.line(log, 1).indexOf('?') < 0 ? 1 : 0, due);
            Check.due("as a false start", log.falseStart(1, true), 1 - due);
            Check.due("its slate", log.take(1, 16), due);
            Check.due("its right number", log.take(1, 2), 2);
        }
        // The right number is that of now: said 1, 1, and the first one becomes a false start.
        TakeLog log = Check.loaded("Tt001b01A01t001");
        Check.due("wrong at first", log.take(1, 16), 0);
        Check.due("right now", log.falseStart(0, true), 0);
        Check.due("wrong again", log.falseStart(0, false), 1);
    }

    /** A log whose camera roll has so many seconds left, of 300. */
    private static TakeLog left(int seconds) {
        TakeLog log = new TakeLog();
        for (int used = 300 - seconds; used > 0; used -= 120) {
            log.shoot(Math.min(120, used), false);
        }
        return log;
    }

    /** "it has the length of these, or as many as are left on the camera roll .., if these are fewer". */
    private static void lengths() {
        for (int left = 1; left <= 121; left++) {
            for (int seconds : new int[] {1, left - 1, left, left + 1, 120}) {
                if (seconds >= 1 && seconds <= 120) {
                    TakeLog log = left(left);
                    int i = log.about(0);
                    int want = Math.min(left, seconds);
                    Check.due("shoot(" + seconds + ") with " + left + " left", log.shoot(seconds, true), want);
                    Check.due("its second", log.take(i, 7), 300 - left);
                    Check.due("its length", log.take(i, 8), want);
                    Check.due("used", log.about(7), 300 - left + want);
                    Check.due("one more", outcome(() -> log.shoot(1, true)),
                            want == left ? "throws.IllegalStateException" : "1");
                }
            }
        }
        TakeLog small = new TakeLog();
        small.set(0, 60);
        Check.due("the smallest roll", small.shoot(120, true), 60);
        Check.due("nothing left", outcome(() -> small.shoot(1, true)), "throws.IllegalStateException");
        TakeLog large = new TakeLog();
        large.set(0, 999);
        for (int k = 0; k < 8; k++) {
            Check.due("the largest roll", large.shoot(120, true), 120);
        }
        Check.due("the largest roll used up to its end", large.shoot(120, true), 39);
        Check.due("used", large.about(7), 999);
        Check.due("nothing left", outcome(() -> large.shoot(1, true)), "throws.IllegalStateException");
        Check.due("newCamera", large.newCamera(), 2);
        Check.due("a whole roll again", large.shoot(120, true), 120);
        Check.take(large, 9, 1, 0, 10, 1, 0, 10, 2, 0, 120);
    }

    /** "(Rolls that are used further than that have nothing left.)" */
    private static void rollsUsedFurther() {
        TakeLog log = new TakeLog();
        log.shoot(100, true);
        for (int seconds : new int[] {60, 99, 100}) {
            log.set(0, seconds);
            Check.due("shoot on a roll of " + seconds, outcome(() -> log.shoot(1, true)),
                    "throws.IllegalStateException");
            Check.due("used", log.about(7), 100);
        }
        log.set(0, 101);
        Check.due("one second left", log.shoot(120, true), 1);
        log.set(0, 999);
        Check.due("much left", log.shoot(120, true), 120);
        for (int seconds : new int[] {60, 220, 221}) {
            log.set(1, seconds);
            log.shoot(1, true);
            Check.due("sound on a roll of " + seconds, log.take(log.about(0) - 1, 9), -1);
            Check.due("used", log.about(9), 221);
        }
        log.set(1, 222);
        log.shoot(1, true);
        Check.due("one second of sound left", log.take(log.about(0) - 1, 10), 221);
        Check.due("used", log.about(9), 222);
    }

    /** "if .. the sound roll (setting 1) has as many seconds left as its length, it is there likewise". */
    private static void soundThatFits() {
        for (int used = 1; used < 60; used++) {
            for (int more = -1; more <= 1; more++) {
                int seconds = 60 - used + more;
                TakeLog log = new TakeLog();
                log.set(1, 60);
                log.shoot(used, true);
                if (seconds >= 1) {
                    log.shoot(seconds, true);
                    int[] want = more > 0 ? new int[] {-1, -1, -1} : new int[] {1, used, 2};
                    Check.due("sound of " + seconds + " behind " + used, log.take(1, 9), want[0]);
                    Check.due("its second", log.take(1, 10), want[1]);
                    Check.due("its file", log.take(1, 11), want[2]);
                    Check.due("used", log.about(9), more > 0 ? used : used + seconds);
                }
            }
        }
        // It is the length that counts, not the seconds that were wanted.
        TakeLog cut = new TakeLog();
        cut.set(0, 60);
        cut.set(1, 60);
        cut.shoot(59, true);
        Check.due("a take cut to one second", cut.shoot(120, true), 1);
        Check.due("has sound", cut.take(1, 10), 59);
        Check.due("a sound roll used up to its end", cut.about(9), 60);
        TakeLog silent = new TakeLog();
        silent.shoot(120, false);
        Check.take(silent, 0, 1, 0, 1, 1, 0, 1, 1, 0, 120, -1, -1, -1, 0, 0, 0, 0, 1);
        Check.due("no sound uses nothing", silent.about(9), 0);
    }

    /** 900 seconds at first; 3600 are more than 24 takes can use. */
    private static void longSoundRolls() {
        TakeLog log = new TakeLog();
        log.set(0, 999);
        for (int k = 0; k < 7; k++) {
            log.shoot(120, true);
        }
        log.newCamera();
        log.shoot(61, true);
        Check.due("61 of 60 that are left", log.take(7, 9), -1);
        log.shoot(60, true);
        Check.due("60 of 60 that are left", log.take(8, 10), 840);
        Check.due("used up to its end", log.about(9), 900);
        log.shoot(1, true);
        Check.due("1 of none", log.take(9, 9), -1);
        TakeLog most = new TakeLog();
        most.set(0, 999);
        most.set(1, 3600);
        for (int k = 0; k < 24; k++) {
            if (k % 8 == 0) {
                most.newCamera();
            }
            most.shoot(120, true);
            Check.due("its second of sound", most.take(k, 10), 120 * k);
            Check.due("its file", most.take(k, 11), k + 1);
        }
        Check.due("used", most.about(9), 2880);
    }

    /** "its file number is 1 more than that of the latest file of this sound roll (1 for the first one)". */
    private static void files() {
        // Sound, none, sound, a new camera roll, sound, a new sound roll, none, sound, sound, two new rolls, sound.
        TakeLog log = Check.loaded("Tt001m001t001nt001sm001t001t001sst001nt001");
        int[][] want = {{1, 1, 0, 1}, {1, -1, -1, -1}, {1, 1, 1, 2}, {2, 1, 2, 3}, {2, -1, -1, -1}, {2, 2, 0, 1},
            {2, 2, 1, 2}, {2, 4, 0, 1}, {3, 4, 1, 2}};
        for (int i = 0; i < want.length; i++) {
            Check.due("the camera roll of " + i, log.take(i, 6), want[i][0]);
            Check.due("the sound roll of " + i, log.take(i, 9), want[i][1]);
            Check.due("the second of sound of " + i, log.take(i, 10), want[i][2]);
            Check.due("the file of " + i, log.take(i, 11), want[i][3]);
        }
    }

    /** "the time becomes greater by its length and setting 2": 0 to 60, by the length that it has. */
    private static void time() {
        for (int pause : new int[] {0, 1, 59, 60}) {
            TakeLog log = new TakeLog();
            log.set(2, pause);
            log.shoot(120, false);
            Check.due("the time behind one", log.about(10), 120 + pause);
            log.shoot(120, false);
            log.set(2, 60 - pause);
            log.shoot(120, false);
            Check.due("the time behind one cut short", log.about(10), 300 + pause + 60);
            Check.due("its own time", log.take(2, 12), 240 + 2 * pause);
        }
        TakeLog most = new TakeLog();
        most.set(2, 60);
        for (int k = 0; k < 24; k++) {
            most.newCamera();
            most.shoot(120, true);
            Check.due("time", most.take(k, 12), 180 * k);
        }
        Check.due("the greatest time", most.about(10), 24 * 180);
    }

    /** "If setting 3 is 1, the take that the board says becomes 1 more then (but stays 99)." */
    private static void theBoardGoesOn() {
        int[][] rows = {{1, 1, 2}, {1, 2, 3}, {1, 97, 98}, {1, 98, 99}, {1, 99, 99}, {0, 1, 1}, {0, 98, 98}, {0, 99, 99}};
        for (int[] row : rows) {
            TakeLog log = new TakeLog();
            log.set(3, row[0]);
            log.board(7, 3, row[1]);
            log.shoot(1, true);
            Check.due("what the board said", log.take(0, 5), row[1]);
            Check.about(log, "the board", 1, 1, 0, 7, 3, row[2]);
            Check.due("a shot that is refused moves nothing", outcome(() -> log.shoot(0, true)),
                    "throws.IllegalArgumentException");
            Check.due("the board", log.about(5), row[2]);
        }
    }

    /** Each setting can be each value of its range; "Returns the previous one." */
    private static void settings() {
        int[][] ranges = {{60, 999, 300}, {60, 3600, 900}, {0, 60, 10}, {0, 1, 1}};
        for (int what = 0; what < 4; what++) {
            TakeLog log = new TakeLog();
            String others = Check.state(log);
            int before = ranges[what][2];
            for (int v = ranges[what][0]; v <= ranges[what][1]; v++) {
                Check.due("set(" + what + ", " + v + ")", log.set(what, v), before);
                Check.due("setting(" + what + ")", log.setting(what), v);
                before = v;
            }
            log.set(what, ranges[what][2]);
            Check.due("the other settings stay", Check.state(log), others);
        }
    }

    /** "a stamp is the time, with these added", "from now on"; off is -99 to 99. */
    private static void stamps() {
        TakeLog log = new TakeLog();
        int before = 0;
        for (int off = -99; off <= 99; off++) {
            Check.due("off(" + off + ")", log.off(off), before);
            Check.due("about(11)", log.about(11), off);
            before = off;
            if (off % 11 == 0) {
                int i = log.about(0);
                log.shoot(1, true);
                Check.due("its stamp", log.take(i, 13), log.take(i, 12) + off);
            }
        }
        Check.due("takes", log.about(0), 19);
        for (int i = 0; i < 19; i++) {
            Check.due("time", log.take(i, 12), 11 * i);
            Check.due("the stamps stay", log.take(i, 13), 11 * i - 99 + 11 * i);
        }
        for (int off : new int[] {-99, -1, 0, 1, 99}) {
            TakeLog first = new TakeLog();
            first.off(off);
            first.shoot(1, false);
            Check.due("the first stamp, also without sound", first.take(0, 13), off);
        }
    }

    /** circle and falseStart: the first and the last of 24 takes, none of them and all. */
    private static void marks() {
        TakeLog log = Check.loaded("T" + "t005".repeat(24));
        for (int i = 0; i < 24; i++) {
            Check.due("circle " + i, log.circle(i, true), i + 1);
            Check.due("the seconds of the circled takes", log.about(14), 5 * (i + 1));
            Check.due("circle " + i + " again", log.circle(i, true), i + 1);
        }
        for (int i = 23; i >= 0; i--) {
            Check.due("no circle " + i, log.circle(i, false), i);
            Check.due("no circle " + i + " again", log.circle(i, false), i);
        }
        Check.due("no seconds", log.about(14), 0);
        for (int i = 23; i >= 0; i--) {
            Check.due("falseStart " + i, log.falseStart(i, true), 23 - i);
            Check.due("the false starts", log.about(15), 24 - i);
            Check.due("circled", log.about(13), 0);
        }
        for (int i = 0; i < 24; i++) {
            log.falseStart(i, false);
            Check.due("the false starts", log.about(15), 23 - i);
            Check.due("is it one", log.take(i, 15), 0);
        }
        Check.due("all slates are right again", log.about(12), 0);
    }

    /** fix: "the board said the meant setup and the right number of now"; "1 if it was wrong, otherwise 0". */
    private static void fixing() {
        TakeLog log = Check.loaded("Tb99Z99" + "t001".repeat(24));
        Check.due("all wrong", log.about(12), 24);
        for (int i = 23; i >= 0; i--) {
            Check.due("fix " + i, log.fix(i), 1);
            Check.due("said", log.take(i, 3) * 10000 + log.take(i, 4) * 100 + log.take(i, 5), 10000 + i + 1);
            Check.due("fix " + i + " again", log.fix(i), 0);
            Check.due("wrong slates", log.about(12), i);
        }
        Check.about(log, "the board of now stays", 24, 1, 0, 99, 25, 99);
        for (int i = 0; i < 23; i++) {
            log.falseStart(i, true);
        }
        Check.due("fix of the last to the right number of now", log.fix(23), 1);
        Check.due("said", log.take(23, 5), 1);
        Check.due("fix of a false start", log.fix(22), 1);
        Check.due("said", log.take(22, 5), 1);
        Check.due("the first one was right all the time", log.fix(0), 0);
        Check.due("it stays a false start", log.take(22, 15), 1);
    }

    /** The line: each mark alone and together, and each k from 0 up to the one behind the end. */
    private static void lines() {
        String[] marks = {"", "*", "?", "*?", "x", "*x", "?x", "*?x"};
        for (int set = 0; set < 8; set++) {
            for (int sound = 0; sound < 2; sound++) {
                TakeLog log = new TakeLog();
                log.board(1, (set & 2) / 2, 1);
                log.shoot(9, sound == 1);
                log.circle(0, (set & 1) != 0);
                log.falseStart(0, (set & 4) != 0);
                String want = "1" + (char) ('A' + (set & 2) / 2) + "/1" + marks[set] + " c1:0" + (sound == 1 ? " s1:1" : "");
                for (int k = 0; k < want.length(); k++) {
                    Check.due("character " + k + " of " + want, log.line(0, k), want.charAt(k));
                }
                for (int k : new int[] {want.length(), want.length() + 1, 79, 80, 81, Integer.MAX_VALUE}) {
                    Check.due("character " + k + " of " + want, log.line(0, k), TakeLog.NONE);
                }
            }
        }
        for (int scene : new int[] {1, 9, 10, 99}) {
            for (int letter = 0; letter < 26; letter++) {
                for (int take : new int[] {1, 9, 10, 99}) {
                    TakeLog log = new TakeLog();
                    log.board(scene, letter, take);
                    log.call(scene, letter);
                    log.shoot(1, false);
                    String want = scene + "" + (char) ('A' + letter) + "/" + take + (take == 1 ? "" : "?") + " c1:0";
                    Check.due("the line", Check.line(log, 0), want);
                }
            }
        }
    }

    /** Rolls, seconds and files of one, two and three digits; the camera roll and the sound roll are not the same. */
    private static void longestLines() {
        for (int camera : new int[] {1, 9, 10, 99, 100, 250}) {
            for (int sound : new int[] {1, 9, 10, 99, 100, 250}) {
                TakeLog log = new TakeLog();
                log.set(0, 999);
                for (int k = 1; k < camera; k++) {
                    log.newCamera();
                }
                for (int k = 1; k < sound; k++) {
                    log.newSound();
                }
                log.set(3, 0);
                int[] seconds = {9, 1, 89, 1, 120, 120, 120, 120, 120, 120, 120, 120};
                int from = 0;
                for (int i = 0; i < seconds.length; i++) {
                    log.shoot(seconds[i], from < 900 - 120);
                    String want = "1A/1" + (i == 0 ? "" : "?") + " c" + camera + ":" + from
                            + (from < 780 ? " s" + sound + ":" + (i + 1) : "");
                    Check.due("the line", Check.line(log, i), want);
                    from += seconds[i];
                }
                Check.due("the camera roll", log.take(0, 6), camera);
                Check.due("the sound roll", log.take(0, 9), sound);
            }
        }
    }

    /** about(12) to about(16) with 24 takes: all and none of them. */
    private static void fullTotals() {
        TakeLog log = new TakeLog();
        log.set(2, 60);
        log.set(3, 0);
        log.off(50);
        log.board(2, 0, 1);
        for (int k = 0; k < 24; k++) {
            if (k % 2 == 0) {
                log.newCamera();
            }
            log.shoot(k == 23 ? 120 : 50, k % 2 == 0);
            log.circle(k, true);
            log.falseStart(k, true);
        }
        Check.due("wrong slates", log.about(12), 24);
        Check.due("circled", log.about(13), 24);
        Check.due("their seconds", log.about(14), 23 * 50 + 120);
        Check.due("false starts", log.about(15), 24);
        // 50 s too late is just behind the take: those with sound get none, and so do those without.
        Check.due("none, though they have one", log.about(16), 12);
        TakeLog own = Check.loaded("T" + "t001".repeat(24));
        Check.due("each its own", own.about(16), 0);
        TakeLog less = Check.loaded("Tv49" + "t001".repeat(24));
        Check.due("each none", less.about(16), 24);
        TakeLog other = new TakeLog();
        other.set(2, 0);
        other.off(-1);
        for (int k = 0; k < 24; k++) {
            other.shoot(1, true);
        }
        Check.due("each another, the last none", other.about(16), 24);
        Check.due("another", other.synced(0), 1);
        Check.due("none", other.synced(23), -1);
    }

    /** "An object is used for at most 512 calls": the 512th one still answers. */
    private static void manyCalls() {
        TakeLog cameras = new TakeLog();
        TakeLog sounds = new TakeLog();
        for (int k = 1; k <= 511; k++) {
            Check.due("newCamera", cameras.newCamera(), k + 1);
            Check.due("newSound", sounds.newSound(), k + 1);
        }
        Check.due("the 512th call", cameras.about(6), 512);
        Check.due("the 512th call", sounds.about(8), 512);
        TakeLog shots = new TakeLog();
        for (int k = 0; k < 255; k++) {
            Check.due("shoot", shots.shoot(120, true), 120);
            Check.due("undo", shots.undo(), 0);
        }
        Check.due("the 511th call", shots.shoot(120, true), 120);
        Check.due("the 512th call", shots.about(10), 130);
    }
}
