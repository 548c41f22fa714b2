/** Promises 1 and 6 to 9: a new object, about, take, line, setting. */
public final class NumbersTest {
    public static void main(String[] args) {
        newObject();
        totals();
        linesOfTakes();
        wrongArguments();
        Check.end("NumbersTest");
    }

    private static void newObject() {
        TakeLog log = new TakeLog();
        Check.about(log, "new", 0, 1, 0, 1, 0, 1, 1, 0, 1, 0, 0, 0, 0, 0, 0, 0, 0);
        Check.due("setting(0)", log.setting(0), 300);
        Check.due("setting(1)", log.setting(1), 900);
        Check.due("setting(2)", log.setting(2), 10);
        Check.due("setting(3)", log.setting(3), 1);
        Check.due("text", log.clearText(), 0);
        Check.refuses(log, IllegalStateException.class, "undo", log::undo);
        Check.refuses(log, IllegalStateException.class, "restore", () -> log.restore(0));
        Check.refuses(log, IndexOutOfBoundsException.class, "take(0, 0)", () -> log.take(0, 0));
        Check.due("none is -1", TakeLog.NONE, -1);
        TakeLog other = new TakeLog();
        other.shoot(5, true);
        other.newCamera();
        Check.due("objects share nothing", log.about(0) + log.about(6), 1);
    }

    private static void totals() {
        TakeLog log = new TakeLog();
        log.call(2, 1);
        log.right();
        log.shoot(100, true);
        log.off(-1);
        log.shoot(120, false);
        log.shoot(120, true);
        log.falseStart(0, true);
        log.circle(1, true);
        log.circle(2, true);
        log.board(7, 25, 99);
        Check.about(log, "three takes", 3, 2, 1, 7, 25, 99, 1, 300, 1, 180, 330, -1, 2, 2, 200, 1, 0);
        Check.take(log, 0, 2, 1, 1, 2, 1, 1, 1, 0, 100, 1, 0, 1, 0, 0, 0, 1, 1);
        Check.take(log, 1, 2, 1, 1, 2, 1, 2, 1, 100, 120, -1, -1, -1, 110, 109, 1, 0, 0);
        Check.take(log, 2, 2, 1, 2, 2, 1, 3, 1, 220, 80, 1, 100, 2, 240, 239, 1, 0, 0);
        TakeLog early = new TakeLog();
        early.off(-1);
        early.shoot(1, false);
        Check.due("a stamp that is the same as NONE", early.take(0, 13), -1);
        otherSounds();
    }

    private static void otherSounds() {
        TakeLog log = new TakeLog();
        log.off(30);
        log.shoot(20, true);
        log.off(0);
        Check.due("no sound, though it has one", log.about(16), 1);
        log.shoot(20, false);
        Check.due("a sound, though it has none", log.about(16), 2);
        log.newCamera();
        log.shoot(20, true);
        Check.due("its own sound", log.about(16), 2);
        TakeLog other = Check.loaded("Tt020v80t020v45t020");
        Check.due("another sound than its own, and none", other.about(16), 2);
        Check.due("another sound than its own", other.synced(2), 1);
        Check.due("one second is its own", Check.loaded("Tv59t010").about(16), 0);
        Check.due("the last second is its own", Check.loaded("Tv41t010").about(16), 0);
        Check.due("not one second more", Check.loaded("Tv60t010").about(16), 1);
        Check.due("not one second less", Check.loaded("Tv40t010").about(16), 1);
        TakeLog silent = new TakeLog();
        silent.shoot(20, false);
        Check.due("no sound, and none given", silent.about(16), 0);
    }

    private static void linesOfTakes() {
        TakeLog log = new TakeLog();
        log.shoot(5, true);
        Check.due("line", Check.line(log, 0), "1A/1 c1:0 s1:1");
        log.board(99, 25, 99);
        log.shoot(6, false);
        Check.due("line", Check.line(log, 1), "99Z/99? c1:5");
        log.circle(1, true);
        log.falseStart(1, true);
        Check.due("all marks", Check.line(log, 1), "99Z/99*?x c1:5");
        log.fix(1);
        Check.due("a right slate", Check.line(log, 1), "1A/2*x c1:5");
        log.circle(1, false);
        Check.due("just a false start", Check.line(log, 1), "1A/2x c1:5");
        for (int k = 0; k < 10; k++) {
            log.newCamera();
            log.newSound();
        }
        log.set(3, 0);
        log.board(10, 3, 10);
        log.shoot(100, true);
        log.shoot(1, true);
        Check.due("longer numbers", Check.line(log, 2), "10D/10? c11:0 s11:1");
        Check.due("longer numbers", Check.line(log, 3), "10D/10? c11:100 s11:2");
        Check.due("the last character", log.line(3, 20), '2');
        Check.due("behind the end", log.line(3, 21), TakeLog.NONE);
        Check.due("far behind the end", log.line(3, Integer.MAX_VALUE), TakeLog.NONE);
        Check.due("another line is another text", log.line(0, 14), TakeLog.NONE);
        Check.due("a line once more", log.line(0, 13), '1');
    }

    private static void wrongArguments() {
        TakeLog log = Check.loaded("Tt010t020");
        for (int bad : new int[] {-1, 17, Integer.MIN_VALUE, Integer.MAX_VALUE}) {
            Check.refuses(log, IllegalArgumentException.class, "about " + bad, () -> log.about(bad));
            Check.refuses(log, IllegalArgumentException.class, "take(0, ) " + bad, () -> log.take(0, bad));
        }
        for (int bad : new int[] {-1, 2, 24, Integer.MIN_VALUE, Integer.MAX_VALUE}) {
            Check.refuses(log, IndexOutOfBoundsException.class, "take " + bad, () -> log.take(bad, 0));
            Check.refuses(log, IndexOutOfBoundsException.class, "take, both wrong " + bad, () -> log.take(bad, 17));
            Check.refuses(log, IndexOutOfBoundsException.class, "line " + bad, () -> log.line(bad, 0));
            Check.refuses(log, IndexOutOfBoundsException.class, "line, both wrong " + bad, () -> log.line(bad, -1));
        }
        for (int bad : new int[] {-1, 4, Integer.MIN_VALUE, Integer.MAX_VALUE}) {
            Check.refuses(log, IllegalArgumentException.class, "setting " + bad, () -> log.setting(bad));
        }
        Check.refuses(log, IllegalArgumentException.class, "line(0, -1)", () -> log.line(0, -1));
        Check.refuses(log, IllegalArgumentException.class, "line(1, MIN)", () -> log.line(1, Integer.MIN_VALUE));
    }
}
