/** Promises 32 and 33: runScript, simulate. */
public final class ScriptTest {
    public static void main(String[] args) {
        wrongArguments();
        order();
        groups();
        groupsWithTakes();
        fullLogs();
        simulations();
        Check.end("ScriptTest");
    }

    private static void wrongArguments() {
        TakeLog log = Check.loaded("Tt010");
        for (int bad : new int[] {0, 4, -1, Integer.MIN_VALUE, Integer.MAX_VALUE}) {
            Check.refuses(log, IllegalArgumentException.class, "runScript n " + bad, () -> log.runScript(bad, 50000L));
        }
        Check.refuses(log, IllegalArgumentException.class, "runScript(0, 0)", () -> log.runScript(0, 0));
        long[] ends = {100000L, 10000000000L, 1000000000000000L};
        for (int n = 1; n <= 3; n++) {
            int commands = n;
            for (long bad : new long[] {ends[n - 1], -1, Long.MIN_VALUE, Long.MAX_VALUE}) {
                Check.refuses(log, IllegalArgumentException.class, "runScript script " + bad,
                        () -> log.runScript(commands, bad));
            }
            Check.due("all digits are 9", log.runScript(n, ends[n - 1] - 1), 0);
            Check.due("no digits", log.runScript(n, 0), 0);
        }
        for (int bad : new int[] {0, 81, -1, Integer.MIN_VALUE, Integer.MAX_VALUE}) {
            Check.refuses(log, IllegalArgumentException.class, "simulate m " + bad, () -> log.simulate(1, bad));
        }
    }

    private static void order() {
        TakeLog log = new TakeLog();
        String before = Check.everything(log);
        Check.due("all succeed", log.runScript(3, 50000_50000_50000L), -1);
        Check.due("the first fails", log.runScript(3, 50001_50000_50001L), 0);
        Check.due("the second fails", log.runScript(3, 50000_50001_50001L), 1);
        Check.due("the third fails", log.runScript(3, 50000_50000_50001L), 2);
        Check.due("zeros ahead of it", log.runScript(2, 50000L), 0);
        Check.due("two", log.runScript(2, 50000_00000L), 1);
        Check.due("one changes the next", log.runScript(2, 11010_60001L), -1);
        Check.due("one changes the next", log.runScript(3, 11010_30001_60001L), -1);
        Check.due("not ahead of it", log.runScript(2, 60001_11010L), 0);
        Check.due("right writes the board", log.runScript(3, 40201_50000_10001L), -1);
        Check.due("a wrong slate", log.runScript(3, 40201_10001_60000L), -1);
        Check.due("a right slate", log.runScript(3, 40201_10001_60001L), 2);
        Check.due("on a copy", Check.everything(log), before);
        Check.refuses(log, IllegalStateException.class, "a script is no action", log::undo);
    }

    private static void succeed(TakeLog log, boolean due, long... groups) {
        for (long group : groups) {
            Check.due("the group " + group, log.runScript(1, group), due ? -1 : 0);
        }
    }

    private static void groups() {
        TakeLog log = new TakeLog();
        succeed(log, true, 10001, 11001, 10120, 11120);
        succeed(log, false, 10000, 11000, 10121, 11121, 12001, 12010, 19010, 19120, 1010, 10999, 11999);
        succeed(log, true, 20000, 20001);
        succeed(log, false, 20002, 20009, 20010, 20011, 20100, 20101, 21000, 21001, 29000);
        succeed(log, true, 40100, 49900, 40125, 49925);
        succeed(log, false, 40000, 40126, 40199, 40025, 49926);
        succeed(log, true, 50000);
        succeed(log, false, 50001, 50010, 50100, 51000);
        succeed(log, true, 70000, 70099, 70001);
        succeed(log, false, 70100, 71000, 79000);
        succeed(log, true, 90000, 90001, 90299, 90300);
        succeed(log, false, 90301, 90999, 91000, 91001, 99000);
        succeed(log, false, 0, 1, 100, 1000, 2345, 9999);
        succeed(log, false, 30000, 30001, 60000, 60001, 80000, 39901, 69901, 89999);
        Check.due("newCamera gives a whole roll", log.runScript(3, 10120_20000_90300L), -1);
        Check.due("newSound does not", log.runScript(3, 10120_20001_90181L), 2);
        Check.due("180 are left", log.runScript(3, 10120_20001_90180L), -1);
    }

    private static void groupsWithTakes() {
        // 1A/1 with sound, 1A/2 without, 1A/3 off by -30 s, 1A/3 as a wrong slate without sound.
        TakeLog log = Check.loaded("Tt010m020v20t020v50b01A03m010");
        succeed(log, true, 30000, 30001, 30300, 30301);
        succeed(log, false, 30400, 30401, 30002, 30010, 30011, 32400, 39901, 30009);
        succeed(log, true, 60001, 60101, 60201, 60300);
        succeed(log, false, 60000, 60100, 60200, 60301, 60400, 60401, 60002, 60302, 60310, 60011, 60010, 69900);
        succeed(log, true, 70001, 70002, 70099);
        succeed(log, false, 70000);
        succeed(log, true, 80000, 80102);
        succeed(log, false, 80100, 80101, 80202, 80002, 80303, 80400, 80004, 80099, 89900);
        Check.due("a false start", log.runScript(2, 30001_70001L), 1);
        Check.due("a false start", log.runScript(3, 30001_70002_70099L), -1);
        Check.due("no false start again", log.runScript(3, 30001_30000_70001L), -1);
        Check.due("sound", log.runScript(2, 11010_80404L), -1);
        Check.due("no sound", log.runScript(2, 10010_80404L), 1);
        log.set(1, 60);
        Check.due("no room for sound", log.runScript(2, 11040_80404L), 1);
        Check.due("a new sound roll", log.runScript(3, 20001_11040_80404L), -1);
        Check.due("a new camera roll is none", log.runScript(3, 20000_11040_80404L), 2);
    }

    private static void fullLogs() {
        TakeLog log = new TakeLog();
        log.set(0, 60);
        log.shoot(60, true);
        succeed(log, false, 10001, 11001, 90001);
        succeed(log, true, 90000);
        Check.due("a new roll", log.runScript(2, 20000_10001L), -1);
        log.set(0, 999);
        succeed(log, true, 90939, 90909, 90000);
        succeed(log, false, 90940, 90999, 91000);
        log.set(0, 100);
        log.shoot(40, true);
        log.set(0, 60);
        succeed(log, true, 90000);
        succeed(log, false, 90001, 10001);
        log.newCamera();
        for (int k = 2; k < 23; k++) {
            log.shoot(1, true);
        }
        Check.due("the 24th and the 25th", log.runScript(2, 10001_10001L), 1);
        log.shoot(1, true);
        succeed(log, false, 10001);
        succeed(log, true, 60001, 62301, 32301, 82323);
    }

    private static void simulations() {
        TakeLog log = forTurns();
        String before = Check.everything(log);
        for (int m = 1; m <= 80; m++) {
            for (long seed : new long[] {0, 1, -1, 12345 + m, Long.MIN_VALUE, Long.MAX_VALUE}) {
                Check.due("simulate(" + seed + ", " + m + ")", log.simulate(seed, m), byHand(seed, m));
            }
        }
        for (int seed = 2; seed < 400; seed++) {
            Check.due("simulate(" + seed + ", 60)", log.simulate(seed, 60), byHand(seed, 60));
        }
        Check.due("on a copy", Check.everything(log), before);
        Check.refuses(log, IllegalStateException.class, "a simulation is no action", log::undo);
    }

    /** A log with short sound rolls, so that new ones make a difference, and with no state remembered. */
    private static TakeLog forTurns() {
        TakeLog log = Check.loaded("Tt010t020v90");
        log.set(1, 150);
        log.save(0);
        log.restore(0);
        return log;
    }

    /** The turns of a simulation, done with the methods of the face. */
    private static int byHand(long seed, int m) {
        TakeLog log = forTurns();
        Turns.onto(log, seed, m);
        return 1000 * log.about(12) + log.about(16);
    }
}
