/** Promises 10 to 21: the actions, and undo. */
public final class ActionsTest {
    public static void main(String[] args) {
        setupsAndBoards();
        shooting();
        soundRolls();
        marks();
        clockAndSettings();
        wrongArguments();
        undoing();
        whatIsAnAction();
        Check.end("ActionsTest");
    }

    private static void setupsAndBoards() {
        TakeLog log = new TakeLog();
        Check.due("call(99, 25)", log.call(99, 25), 1);
        Check.due("board that is right", log.board(99, 25, 1), 1);
        Check.due("another take", log.board(99, 25, 2), 0);
        Check.due("another letter", log.board(99, 24, 1), 0);
        Check.due("another scene", log.board(98, 25, 1), 0);
        Check.about(log, "the board", 0, 99, 25, 98, 25, 1);
        Check.due("right", log.right(), 1);
        Check.about(log, "the board", 0, 99, 25, 99, 25, 1);
        log.shoot(1, false);
        log.shoot(1, false);
        log.call(99, 24);
        log.shoot(1, false);
        log.call(98, 25);
        log.shoot(1, false);
        Check.due("call", log.call(99, 25), 3);
        log.falseStart(0, true);
        Check.due("call behind a false start", log.call(99, 25), 2);
        Check.due("right behind a false start", log.right(), 2);
        Check.about(log, "the board", 4, 99, 25, 99, 25, 2);
        Check.due("board", log.board(99, 25, 3), 0);
        Check.due("board", log.board(99, 25, 2), 1);
        Check.due("call changes no board", log.call(1, 0), 1);
        Check.about(log, "the board", 4, 1, 0, 99, 25, 2);
    }

    private static void shooting() {
        TakeLog log = new TakeLog();
        Check.due("shoot(120)", log.shoot(120, true), 120);
        Check.due("shoot(1)", log.shoot(1, false), 1);
        Check.due("board goes on", log.about(5), 3);
        Check.due("shoot(120)", log.shoot(120, true), 120);
        Check.due("what is left", log.shoot(120, true), 59);
        Check.about(log, "used up", 4, 1, 0, 1, 0, 5, 1, 300, 1, 299, 340);
        Check.refuses(log, IllegalStateException.class, "shoot on a full roll", () -> log.shoot(1, true));
        Check.refuses(log, IllegalArgumentException.class, "shoot(0) on a full roll", () -> log.shoot(0, true));
        Check.due("newCamera", log.newCamera(), 2);
        Check.due("used", log.about(7), 0);
        log.set(0, 60);
        Check.due("exactly the roll", log.shoot(60, true), 60);
        Check.refuses(log, IllegalStateException.class, "shoot", () -> log.shoot(1, true));
        log.set(0, 61);
        Check.due("one second more", log.shoot(2, true), 1);
        log.set(0, 60);
        Check.refuses(log, IllegalStateException.class, "a roll used further than it is", () -> log.shoot(1, true));
        Check.due("newCamera", log.newCamera(), 3);
        log.set(2, 0);
        log.set(3, 0);
        log.board(1, 0, 99);
        int time = log.about(10);
        log.shoot(7, false);
        Check.due("no pause", log.about(10), time + 7);
        Check.due("the board stays", log.about(5), 99);
        log.set(2, 60);
        log.set(3, 1);
        log.board(1, 0, 98);
        log.shoot(7, false);
        Check.due("the greatest pause", log.about(10), time + 74);
        Check.due("the board goes on", log.about(5), 99);
        log.shoot(7, false);
        Check.due("the board stays 99", log.about(5), 99);
        mostTakes();
    }

    private static void mostTakes() {
        TakeLog log = new TakeLog();
        for (int k = 0; k < 24; k++) {
            Check.due("take " + k, log.shoot(2, true), 2);
        }
        Check.refuses(log, IllegalStateException.class, "the 25th take", () -> log.shoot(2, true));
        Check.refuses(log, IllegalArgumentException.class, "the 25th take of 121 s", () -> log.shoot(121, true));
        Check.due("the right number of the 25th", log.right(), 25);
        Check.due("the file of the 24th", log.take(23, 11), 24);
        Check.due("the right number of the 24th", log.take(23, 2), 24);
        log.undo();
        Check.due("undo of right", log.undo(), 12);
        Check.due("23 takes", log.about(0), 23);
        Check.due("the 24th once more", log.shoot(3, false), 3);
    }

    private static void soundRolls() {
        TakeLog log = new TakeLog();
        log.set(1, 60);
        log.set(0, 999);
        log.shoot(40, true);
        log.shoot(21, true);
        Check.due("too long for the sound roll", log.take(1, 9), TakeLog.NONE);
        log.shoot(20, true);
        Check.take(log, 2, 1, 0, 3, 1, 0, 3, 1, 61, 20, 1, 40, 2, 81, 81, 0, 0, 1);
        log.shoot(1, true);
        Check.due("a full sound roll", log.take(3, 11), TakeLog.NONE);
        Check.due("newSound", log.newSound(), 2);
        Check.due("used", log.about(9), 0);
        log.shoot(5, false);
        log.shoot(5, true);
        Check.due("the first file", log.take(5, 11), 1);
        log.set(1, 3600);
        log.set(0, 60);
        Check.due("newSound", log.newSound(), 3);
        log.newCamera();
        log.shoot(50, true);
        log.set(1, 70);
        log.shoot(20, true);
        Check.due("a take cut short fits", log.take(7, 10), 50);
        Check.due("used", log.about(9), 60);
        log.set(1, 60);
        log.newCamera();
        log.shoot(1, true);
        Check.due("a full sound roll", log.take(8, 10), TakeLog.NONE);
    }

    private static void marks() {
        TakeLog log = Check.loaded("Tt010t010t010c01Bt010");
        Check.due("wrong slates", log.about(12), 1);
        Check.due("circle", log.circle(0, true), 1);
        Check.due("circle", log.circle(2, true), 2);
        Check.due("circle again", log.circle(2, true), 2);
        Check.due("no circle", log.circle(0, false), 1);
        Check.due("no circle again", log.circle(0, false), 1);
        Check.due("circled", log.take(2, 14), 1);
        Check.due("not circled", log.take(0, 14), 0);
        Check.due("falseStart", log.falseStart(0, true), 3);
        Check.due("its own slate stays right", log.take(0, 16), 1);
        Check.due("the right number of now", log.take(2, 2), 2);
        Check.due("fix", log.fix(2), 1);
        Check.due("what the board said", log.take(2, 5), 2);
        Check.due("fix again", log.fix(2), 0);
        Check.due("falseStart taken back", log.falseStart(0, false), 2);
        Check.due("fix of another setup", log.fix(3), 1);
        Check.take(log, 3, 1, 1, 1, 1, 1, 1);
        Check.due("falseStart again", log.falseStart(0, false), 1);
        Check.due("the present board stays", log.about(5), 5);
        TakeLog scenes = Check.loaded("Tb02B01t010");
        Check.due("the first slate is wrong", scenes.about(12), 1);
        Check.due("fix of the scene", scenes.fix(0), 1);
        Check.take(scenes, 0, 1, 0, 1, 1, 0, 1);
    }

    private static void clockAndSettings() {
        TakeLog log = new TakeLog();
        Check.due("off(-99)", log.off(-99), 0);
        Check.due("off(99)", log.off(99), -99);
        Check.due("off(-1)", log.off(-1), 99);
        Check.due("off(0)", log.off(0), -1);
        log.shoot(10, true);
        log.off(5);
        log.shoot(10, true);
        Check.due("a stamp ahead of it", log.take(0, 13), 0);
        Check.due("a stamp behind it", log.take(1, 13), 25);
        int[] lowest = {60, 60, 0, 0};
        int[] highest = {999, 3600, 60, 1};
        int[] first = {300, 900, 10, 1};
        for (int what = 0; what < 4; what++) {
            Check.due("set to the lowest " + what, log.set(what, lowest[what]), first[what]);
            Check.due("set to the highest " + what, log.set(what, highest[what]), lowest[what]);
            Check.due("setting " + what, log.setting(what), highest[what]);
            for (int bad : new int[] {lowest[what] - 1, highest[what] + 1, Integer.MIN_VALUE, Integer.MAX_VALUE}) {
                int setting = what;
                Check.refuses(log, IllegalArgumentException.class, "set " + bad, () -> log.set(setting, bad));
            }
        }
        for (int bad : new int[] {-1, 4, Integer.MIN_VALUE, Integer.MAX_VALUE}) {
            Check.refuses(log, IllegalArgumentException.class, "set of " + bad, () -> log.set(bad, 60));
        }
    }

    private static void wrongArguments() {
        TakeLog log = Check.loaded("Tt010t010");
        for (int bad : new int[] {0, 100, -1, Integer.MIN_VALUE, Integer.MAX_VALUE}) {
            Check.refuses(log, IllegalArgumentException.class, "call scene " + bad, () -> log.call(bad, 0));
            Check.refuses(log, IllegalArgumentException.class, "board scene " + bad, () -> log.board(bad, 0, 1));
            Check.refuses(log, IllegalArgumentException.class, "board take " + bad, () -> log.board(1, 0, bad));
        }
        for (int bad : new int[] {-1, 26, Integer.MIN_VALUE, Integer.MAX_VALUE}) {
            Check.refuses(log, IllegalArgumentException.class, "call letter " + bad, () -> log.call(1, bad));
            Check.refuses(log, IllegalArgumentException.class, "board letter " + bad, () -> log.board(1, bad, 1));
        }
        for (int bad : new int[] {0, -1, 121, Integer.MIN_VALUE, Integer.MAX_VALUE}) {
            Check.refuses(log, IllegalArgumentException.class, "shoot " + bad, () -> log.shoot(bad, true));
        }
        for (int bad : new int[] {-100, 100, Integer.MIN_VALUE, Integer.MAX_VALUE}) {
            Check.refuses(log, IllegalArgumentException.class, "off " + bad, () -> log.off(bad));
        }
        for (int bad : new int[] {-1, 2, 24, Integer.MIN_VALUE, Integer.MAX_VALUE}) {
            Check.refuses(log, IndexOutOfBoundsException.class, "circle " + bad, () -> log.circle(bad, true));
            Check.refuses(log, IndexOutOfBoundsException.class, "falseStart " + bad, () -> log.falseStart(bad, true));
            Check.refuses(log, IndexOutOfBoundsException.class, "fix " + bad, () -> log.fix(bad));
        }
        Check.refuses(log, IllegalStateException.class, "no call that threw is remembered", log::undo);
    }

    private static void undoing() {
        TakeLog log = new TakeLog();
        String[] before = new String[40];
        for (int k = 0; k < 40; k++) {
            before[k] = Check.everything(log);
            log.newCamera();
        }
        for (int k = 39; k >= 26; k--) {
            Check.due("undo " + k, log.undo(), k - 26);
            Check.due("the state behind undo " + k, Check.everything(log), before[k]);
        }
        Check.refuses(log, IllegalStateException.class, "undo of the 15th", log::undo);
        log.newSound();
        Check.due("undo behind undo", log.undo(), 0);
        for (int k = 0; k < 13; k++) {
            log.newSound();
        }
        log.append('T');
        log.save(0);
        log.shoot(5, true);
        Check.due("14 are remembered", log.undo(), 13);
        Check.due("the text is kept", log.errorPosition(), TakeLog.NONE);
        log.undo();
        Check.due("12 new sound rolls", log.about(8), 13);
        log.newCamera();
        Check.due("undo mixed with actions", log.undo(), 12);
        Check.due("the slot is kept", log.restore(0), 0);
        Check.due("13 new sound rolls", log.about(8), 14);
    }

    private static void undone(TakeLog log, String what, String before, int left) {
        Check.due("undo of " + what, log.undo(), left);
        Check.due("the state behind undo of " + what, Check.everything(log), before);
    }

    private static void whatIsAnAction() {
        TakeLog log = Check.loaded("Tt010t020c02Bb02B03t030v60");
        String before = Check.everything(log);
        Check.Call[] actions = {
            () -> log.call(9, 9), () -> log.board(9, 9, 9), log::right, () -> log.shoot(9, true), log::newCamera,
            log::newSound, () -> log.circle(0, true), () -> log.falseStart(0, true), () -> log.fix(2),
            () -> log.off(9), () -> log.set(0, 99), () -> log.set(1, 99), () -> log.set(2, 9), () -> log.set(3, 0),
        };
        for (int k = 0; k < actions.length; k++) {
            actions[k].answer();
            Check.due("action " + k + " changes something", Check.everything(log).equals(before) ? 0 : 1, 1);
            undone(log, "action " + k, before, 0);
        }
        Check.Call[] idle = {
            () -> log.call(2, 1), () -> log.board(2, 1, 4), () -> log.circle(0, false), () -> log.falseStart(0, false),
            () -> log.fix(0), () -> log.off(10), () -> log.set(0, 300),
        };
        for (Check.Call call : idle) {
            call.answer();
        }
        for (int k = 6; k >= 0; k--) {
            undone(log, "an action that changes nothing", before, k);
        }
        log.save(0);
        log.errorPosition();
        log.bestShift();
        log.ifFalse(0);
        log.simulate(1, 80);
        log.runScript(1, 50000);
        Check.due("nothing else changes anything", Check.everything(log), before);
        Check.refuses(log, IllegalStateException.class, "nothing else is an action", log::undo);
    }
}
