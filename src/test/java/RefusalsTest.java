import java.util.ArrayList;
import java.util.List;

/**
 * EXCEPTIONS: each refused call throws what the document names, the first one if several apply, and changes nothing:
 * neither the state nor the remembered ones, the save slots and the text. Each is tried in several states.
 */
public final class RefusalsTest {
    private static final Class<? extends RuntimeException> ARGUMENT = IllegalArgumentException.class;
    private static final Class<? extends RuntimeException> STATE = IllegalStateException.class;
    private static final Class<? extends RuntimeException> INDEX = IndexOutOfBoundsException.class;
    private static final int LOW = Integer.MIN_VALUE;
    private static final int HIGH = Integer.MAX_VALUE;

    /** A log that is made the same way each time. */
    private interface Maker {
        TakeLog make();
    }

    public static void main(String[] args) {
        for (Maker maker : makers()) {
            TakeLog log = maker.make();
            numbers(log);
            setups(log);
            takesThatAreNot(log);
            scripts(log);
            int last = log.about(0) - 1;
            if (last >= 0) {
                numbersOfTakes(log, 0);
                numbersOfTakes(log, last);
            }
            Check.due("nothing is different behind all refusals", Check.drained(log), Check.drained(maker.make()));
        }
        refusedForTheState();
        Check.end("RefusalsTest");
    }

    private static List<Maker> makers() {
        List<Maker> all = new ArrayList<>();
        all.add(TakeLog::new);
        all.add(RefusalsTest::oneTake);
        all.add(RefusalsTest::usedUp);
        all.add(RefusalsTest::full);
        return all;
    }

    private static TakeLog oneTake() {
        TakeLog log = Check.loaded("Tc02Brt010");
        log.save(1);
        log.circle(0, true);
        return log;
    }

    /** A camera roll and a sound roll that are used up to their ends, and a text that is no day. */
    private static TakeLog usedUp() {
        TakeLog log = Check.loaded("Tv40");
        log.append('t');
        log.set(0, 60);
        log.set(1, 60);
        log.shoot(25, true);
        log.save(0);
        log.shoot(120, true);
        return log;
    }

    /** A full text, 24 takes, 14 remembered states and more that are forgotten, both slots in use. */
    private static TakeLog full() {
        TakeLog log = Check.loaded("T" + "t001".repeat(24) + "f23o23c02Bb03C04v60nnrs");
        log.save(0);
        log.falseStart(3, true);
        log.save(1);
        for (int k = 0; k < 20; k++) {
            log.circle(k, true);
        }
        return log;
    }

    private static void numbers(TakeLog log) {
        for (int bad : new int[] {LOW, -1, 256, HIGH}) {
            Check.refuses(log, ARGUMENT, "append " + bad, () -> log.append(bad));
        }
        for (int bad : new int[] {LOW, -1, 17, HIGH}) {
            Check.refuses(log, ARGUMENT, "about " + bad, () -> log.about(bad));
        }
        for (int bad : new int[] {LOW, -1, 4, HIGH}) {
            Check.refuses(log, ARGUMENT, "setting " + bad, () -> log.setting(bad));
            Check.refuses(log, ARGUMENT, "set " + bad + " to 60", () -> log.set(bad, 60));
            Check.refuses(log, ARGUMENT, "set " + bad + " to 0", () -> log.set(bad, 0));
        }
        for (int bad : new int[] {LOW, -1, 5, HIGH}) {
            Check.refuses(log, ARGUMENT, "scene " + bad, () -> log.scene(1, bad));
            Check.refuses(log, ARGUMENT, "scene of none " + bad, () -> log.scene(LOW, bad));
        }
        int[][] ranges = {{60, 999}, {60, 3600}, {0, 60}, {0, 1}};
        for (int what = 0; what < 4; what++) {
            int setting = what;
            for (int bad : new int[] {LOW, ranges[what][0] - 1, ranges[what][1] + 1, HIGH}) {
                Check.refuses(log, ARGUMENT, "set " + setting + " to " + bad, () -> log.set(setting, bad));
            }
        }
        for (int bad : new int[] {LOW, -100, 100, HIGH}) {
            Check.refuses(log, ARGUMENT, "off " + bad, () -> log.off(bad));
        }
        for (int bad : new int[] {LOW, -1, 0, 121, HIGH}) {
            Check.refuses(log, ARGUMENT, "shoot " + bad + " with sound", () -> log.shoot(bad, true));
            Check.refuses(log, ARGUMENT, "shoot " + bad + " without sound", () -> log.shoot(bad, false));
            Check.refuses(log, ARGUMENT, "rolls " + bad + " s", () -> log.rolls(bad, 1));
            Check.refuses(log, ARGUMENT, "rolls " + bad + " s", () -> log.rolls(bad, 99));
        }
        for (int bad : new int[] {LOW, -1, 0, 100, HIGH}) {
            Check.refuses(log, ARGUMENT, "rolls for takes " + bad, () -> log.rolls(1, bad));
            Check.refuses(log, ARGUMENT, "rolls for takes " + bad, () -> log.rolls(120, bad));
        }
        for (int bad : new int[] {LOW, -1, 2, HIGH}) {
            Check.refuses(log, INDEX, "save " + bad, () -> log.save(bad));
            Check.refuses(log, INDEX, "restore " + bad, () -> log.restore(bad));
        }
    }

    private static void setups(TakeLog log) {
        for (int bad : new int[] {LOW, -1, 0, 100, HIGH}) {
            for (int letter : new int[] {0, 25}) {
                Check.refuses(log, ARGUMENT, "call scene " + bad, () -> log.call(bad, letter));
                Check.refuses(log, ARGUMENT, "board scene " + bad, () -> log.board(bad, letter, 1));
                Check.refuses(log, ARGUMENT, "board take " + bad, () -> log.board(99, letter, bad));
            }
        }
        for (int bad : new int[] {LOW, -1, 26, HIGH}) {
            for (int scene : new int[] {1, 99}) {
                Check.refuses(log, ARGUMENT, "call letter " + bad, () -> log.call(scene, bad));
                Check.refuses(log, ARGUMENT, "board letter " + bad, () -> log.board(scene, bad, 99));
            }
        }
        Check.refuses(log, ARGUMENT, "call, both wrong", () -> log.call(0, 26));
        Check.refuses(log, ARGUMENT, "board, all wrong", () -> log.board(100, -1, 0));
    }

    /** A wrong take comes ahead of another wrong argument. */
    private static void takesThatAreNot(TakeLog log) {
        for (int bad : new int[] {LOW, -1, log.about(0), log.about(0) + 1, 24, HIGH}) {
            Check.refuses(log, INDEX, "take " + bad, () -> log.take(bad, 0));
            Check.refuses(log, INDEX, "take " + bad + ", and -1", () -> log.take(bad, -1));
            Check.refuses(log, INDEX, "take " + bad + ", and 17", () -> log.take(bad, 17));
            Check.refuses(log, INDEX, "line " + bad, () -> log.line(bad, 0));
            Check.refuses(log, INDEX, "line " + bad + ", and -1", () -> log.line(bad, -1));
            Check.refuses(log, INDEX, "circle " + bad, () -> log.circle(bad, true));
            Check.refuses(log, INDEX, "no circle " + bad, () -> log.circle(bad, false));
            Check.refuses(log, INDEX, "falseStart " + bad, () -> log.falseStart(bad, true));
            Check.refuses(log, INDEX, "no falseStart " + bad, () -> log.falseStart(bad, false));
            Check.refuses(log, INDEX, "fix " + bad, () -> log.fix(bad));
            Check.refuses(log, INDEX, "synced " + bad, () -> log.synced(bad));
            Check.refuses(log, INDEX, "ifFalse " + bad, () -> log.ifFalse(bad));
        }
    }

    private static void numbersOfTakes(TakeLog log, int i) {
        for (int bad : new int[] {LOW, -1, 17, HIGH}) {
            Check.refuses(log, ARGUMENT, "take " + i + ", " + bad, () -> log.take(i, bad));
        }
        for (int bad : new int[] {LOW, -1}) {
            Check.refuses(log, ARGUMENT, "line " + i + ", " + bad, () -> log.line(i, bad));
        }
    }

    private static void scripts(TakeLog log) {
        for (int bad : new int[] {LOW, -1, 0, 4, HIGH}) {
            for (long script : new long[] {Long.MIN_VALUE, -1, 0, 50000, Long.MAX_VALUE}) {
                Check.refuses(log, ARGUMENT, "runScript " + bad + ", " + script, () -> log.runScript(bad, script));
            }
            int turns = bad == 4 ? 81 : bad;
            Check.refuses(log, ARGUMENT, "simulate " + turns, () -> log.simulate(0, turns));
        }
        long[] tooLong = {100000L, 10000000000L, 1000000000000000L};
        for (int n = 1; n <= 3; n++) {
            int commands = n;
            for (long bad : new long[] {Long.MIN_VALUE, -1, tooLong[n - 1], tooLong[n - 1] + 50000, Long.MAX_VALUE}) {
                Check.refuses(log, ARGUMENT, "runScript " + n + ", " + bad, () -> log.runScript(commands, bad));
            }
        }
    }

    /** What is refused in one state and not in another: IllegalStateException, but behind a wrong argument. */
    private static void refusedForTheState() {
        TakeLog none = new TakeLog();
        Check.refuses(none, STATE, "undo, if none is remembered", none::undo);
        Check.refuses(none, STATE, "load of an empty text", none::load);
        Check.refuses(none, STATE, "restore(0), if nothing is saved", () -> none.restore(0));
        Check.refuses(none, STATE, "restore(1), if nothing is saved", () -> none.restore(1));
        Check.due("as new", Check.drained(none), Check.drained(new TakeLog()));
        TakeLog one = oneTake();
        Check.refuses(one, STATE, "restore(0), if only 1 is saved", () -> one.restore(0));
        Check.due("as before", Check.drained(one), Check.drained(oneTake()));
        TakeLog used = usedUp();
        for (int seconds = 1; seconds <= 120; seconds++) {
            int s = seconds;
            Check.refuses(used, STATE, "shoot " + s + " on a used up roll", () -> used.shoot(s, s % 2 == 0));
        }
        Check.refuses(used, STATE, "load of Tv40t", used::load);
        Check.refuses(used, STATE, "restore(1), if only 0 is saved", () -> used.restore(1));
        Check.due("as before", Check.drained(used), Check.drained(usedUp()));
        TakeLog full = full();
        Check.refuses(full, STATE, "shoot 1 with 24 takes", () -> full.shoot(1, true));
        Check.refuses(full, STATE, "shoot 120 with 24 takes", () -> full.shoot(120, false));
        for (int c = 0; c < 256; c++) {
            int sign = c;
            Check.refuses(full, STATE, "append " + c + " to a full text", () -> full.append(sign));
        }
        Check.due("as before", Check.drained(full), Check.drained(full()));
    }
}
