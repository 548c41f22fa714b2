/** Promises 32 and 33: the sentences that name a border; every group of a script, and every kind of turn. */
public final class ScriptEdgesTest {
    private static final String[] DAYS = {
        "T",
        "Tt010m020v20t020v50b01A03m010",
        "Tt120t120t060",
        "Tt120t120t059c02Bv99",
        "T" + "t009m001".repeat(12) + "v20f23",
        "T" + "t012m003".repeat(11) + "v60t010b01A01f05c01B",
    };

    public static void main(String[] args) {
        numbersOfCommands();
        for (String day : DAYS) {
            everyGroup(day);
            oneChangesTheNext(day);
            everyTurn(day);
            twoTurns(day);
        }
        furtherUsedRolls();
        lastTakes();
        orderAndCopy();
        seedsAndTurns();
        Check.end("ScriptEdgesTest");
    }

    private static String run(TakeLog log, int n, long script) {
        return Check.outcome(() -> log.runScript(n, script));
    }

    /** "1 to 3 commands", "a number of at most 5 * n digits (0 or more)", "with zeros before it". */
    private static void numbersOfCommands() {
        TakeLog log = new TakeLog();
        String refused = "throws.IllegalArgumentException";
        long[] tooLong = {1L, 100000L, 10000000000L, 1000000000000000L, 1000000000000000L};
        for (int n = 0; n <= 4; n++) {
            boolean good = n >= 1 && n <= 3;
            Check.due("n is " + n, run(log, n, 0), good ? "0" : refused);
            Check.due("all nines", run(log, n, tooLong[n] - 1), good ? "0" : refused);
            Check.due("one digit more", run(log, n, tooLong[n]), refused);
            Check.due("-1", run(log, n, -1), refused);
        }
        Check.due("one group of one", run(log, 1, 50000L), "-1");
        Check.due("one group of two", run(log, 2, 50000L), "0");
        Check.due("one group of three", run(log, 3, 50000L), "0");
        Check.due("two groups of two", run(log, 2, 50000_50000L), "-1");
        Check.due("two groups of three", run(log, 3, 50000_50000L), "0");
        Check.due("three groups", run(log, 3, 50000_50000_50000L), "-1");
        Check.due("two groups are too much for one", run(log, 1, 50000_50000L), refused);
        Check.due("three groups are too much for two", run(log, 2, 50000_50000_50000L), refused);
        Check.due("the last one is nothing but zeros", run(log, 2, 50000_00000L), "1");
        Check.due("the last two are", run(log, 3, 50000_00000_00000L), "1");
        Check.due("the last of three is", run(log, 3, 50000_50000_00000L), "2");
    }

    private static Model model(String day) {
        Model model = new Model();
        for (int k = 0; k < day.length(); k++) {
            model.append(day.charAt(k));
        }
        model.load();
        return model;
    }

    /** All groups of five digits: "and so does any other group". */
    private static void everyGroup(String day) {
        TakeLog log = Check.loaded(day);
        Model model = model(day);
        String before = Check.everything(log);
        for (int group = 0; group < 100000; group++) {
            Check.due("the group " + group + " behind " + day, log.runScript(1, group), model.runScript(1, group));
        }
        Check.due("on a copy", Check.everything(log), before);
    }

    /** A command, and behind it each question: the same as behind the method. */
    private static void oneChangesTheNext(String day) {
        int[] groups = {11001, 10120, 11120, 10001, 20000, 20001, 30001, 30000, 30201, 32201, 32301, 40101, 40200, 50000};
        for (int group : groups) {
            TakeLog log = Check.loaded(day);
            TakeLog twin = Check.loaded(day);
            boolean done = !Check.outcome(() -> done(twin, group)).startsWith("throws");
            for (int question = 60000; question < 100000; question++) {
                if (question % 100 < 26 || question % 1000 == 300) {
                    int want = !done ? 0 : twin.runScript(1, question) == 0 ? 1 : -1;
                    Check.due(group + " and " + question + " behind " + day,
                            log.runScript(2, group * 100000L + question), want);
                }
            }
        }
    }

    private static int done(TakeLog log, int group) {
        switch (group / 10000) {
            case 1: return log.shoot(group % 1000, group / 1000 % 10 == 1);
            case 2: return group % 10 == 1 ? log.newSound() : log.newCamera();
            case 3: return log.falseStart(group / 100 % 100, group % 10 == 1);
            case 4: return log.call(group / 100 % 100, group % 100);
            default: return log.right();
        }
    }

    private static void succeed(TakeLog log, boolean due, long... groups) {
        for (long group : groups) {
            Check.due("the group " + group, log.runScript(1, group), due ? -1 : 0);
        }
    }

    /** "succeeds if at least sss seconds are left": rolls that are used further have nothing left. */
    private static void furtherUsedRolls() {
        TakeLog log = new TakeLog();
        log.shoot(100, false);
        for (int roll : new int[] {60, 99, 100}) {
            log.set(0, roll);
            succeed(log, true, 90000);
            succeed(log, false, 90001, 90100, 10001);
        }
        log.set(0, 101);
        succeed(log, true, 90000, 90001, 10001, 10120);
        succeed(log, false, 90002);
        Check.due("the second shot of one second", log.runScript(2, 10001_10001L), 1);
        log.set(0, 999);
        succeed(log, true, 90899);
        succeed(log, false, 90900, 90999);
        log.newCamera();
        succeed(log, true, 90999);
    }

    /** Commands with takes: the last one that there is, the first one that there is not; 24 takes. */
    private static void lastTakes() {
        TakeLog log = Check.loaded("T" + "t001".repeat(24));
        succeed(log, true, 30000, 30001, 32300, 32301, 60001, 62301, 80000, 82323, 70000);
        succeed(log, false, 30002, 32302, 30010, 32311, 32400, 32401, 60000, 62300, 60002, 62311, 62400, 62401, 80001,
                80100, 82322, 82324, 82423, 82424, 89999, 10001, 11120);
        TakeLog less = Check.loaded("T" + "t001".repeat(23));
        succeed(less, true, 32201, 62201, 82222, 10001);
        succeed(less, false, 32301, 62301, 82323, 82322, 82223);
        Check.due("the 24th", less.runScript(2, 11001_82323L), -1);
        Check.due("and the 25th", less.runScript(3, 11001_62301_11001L), 2);
        TakeLog wrong = Check.loaded("Tb01A99" + "t001".repeat(24));
        succeed(wrong, true, 60000, 62300, 70024, 70099);
        succeed(wrong, false, 60001, 62301, 70023, 70000);
        TakeLog silent = Check.loaded("T" + "m001".repeat(24));
        succeed(silent, false, 80000, 82323, 80099, 89900);
    }

    /** "the index, from 0, of the first command that fails", and a copy for each script. */
    private static void orderAndCopy() {
        TakeLog log = Check.loaded("Tt010t010t010");
        log.newCamera();
        String before = Check.everything(log);
        long[] good = {11010, 20000, 20001, 30001, 40507, 50000, 60001, 70000, 80000, 90300};
        for (long a : good) {
            Check.due("one", log.runScript(1, a), -1);
            Check.due("bad, and one", log.runScript(2, 50001 * 100000L + a), 0);
            Check.due("one, and bad", log.runScript(2, a * 100000L + 50001), 1);
            Check.due("two bad ones", log.runScript(3, a * 10000000000L + 50001_50001L), 1);
            Check.due("the last is bad", log.runScript(3, a * 10000000000L + 50000_50001L), 2);
            Check.due("as before", Check.everything(log), before);
        }
        Check.due("the newCamera is remembered alone", log.undo(), 0);
    }

    /** One or two turns by the methods, taken back behind it. */
    private static int byMethods(TakeLog log, long seed, int m) {
        int actions = Turns.onto(log, seed, m);
        int answer = 1000 * log.about(12) + log.about(16);
        for (int k = 0; k < actions; k++) {
            log.undo();
        }
        return answer;
    }

    /** One turn, with each r from 0 on through all kinds, and the largest ones. */
    private static void everyTurn(String day) {
        TakeLog log = Check.loaded(day);
        TakeLog twin = Check.loaded(day);
        Check.due("the seed of r 12345", Turns.next(Turns.seedFor(12345, 6)) >>> 33, 12345);
        for (int k = 0; k < 16 * 2 * 120; k++) {
            long seed = Turns.seedFor(k, 0);
            Check.due("the turn " + k + " behind " + day, log.simulate(seed, 1), byMethods(twin, seed, 1));
            int large = Integer.MAX_VALUE - k;
            seed = Turns.seedFor(large, (1L << 33) - 1);
            Check.due("the turn " + large + " behind " + day, log.simulate(seed, 1), byMethods(twin, seed, 1));
        }
    }

    /** A turn of each kind with a second one behind it that shows what the first one did. */
    private static void twoTurns(String day) {
        TakeLog log = Check.loaded(day);
        TakeLog twin = Check.loaded(day);
        for (int r = 0; r < 16 * 199; r++) {
            for (long low = 0; low < 4; low++) {
                long seed = Turns.seedFor(r, low * 1234567891L);
                Check.due("two turns from " + seed, log.simulate(seed, 2), byMethods(twin, seed, 2));
            }
        }
    }

    /** "seed: any long", "m: 1 to 80", and nothing is different behind it. */
    private static void seedsAndTurns() {
        TakeLog log = Check.loaded("Tt010m020v20t020v50b01A03m010");
        String before = Check.everything(log);
        long[] seeds = {Long.MIN_VALUE, Long.MIN_VALUE + 1, -1, 0, 1, Long.MAX_VALUE - 1, Long.MAX_VALUE};
        for (long seed : seeds) {
            for (int m : new int[] {1, 2, 79, 80}) {
                TakeLog twin = Check.loaded("Tt010m020v20t020v50b01A03m010");
                Turns.onto(twin, seed, m);
                Check.due("simulate(" + seed + ", " + m + ")", log.simulate(seed, m),
                        1000 * twin.about(12) + twin.about(16));
            }
            for (int m : new int[] {Integer.MIN_VALUE, -1, 0, 81, Integer.MAX_VALUE}) {
                Check.due("simulate(" + seed + ", " + m + ")", Check.outcome(() -> log.simulate(seed, m)),
                        "throws.IllegalArgumentException");
            }
        }
        Check.due("on a copy", Check.everything(log), before);
        Check.due("no action", Check.outcome(log::undo), "throws.IllegalStateException");
    }
}
