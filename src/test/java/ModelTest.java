/** Runs of calls, the same each time, on the class and on the model: every answer and every state is compared. */
public final class ModelTest {
    private static final int RUNS = 150;
    private static final int CALLS = 400;

    private static long seed = 20260101L;
    private static TakeLog log;
    private static Model model;

    public static void main(String[] args) {
        for (int run = 0; run < RUNS; run++) {
            log = new TakeLog();
            model = new Model();
            for (int k = 0; k < CALLS; k++) {
                step("run " + run + ", call " + k + ": ");
            }
        }
        errorPositions();
        Check.end("ModelTest");
    }

    /** The error position of a text is the length of its longest beginning with which a day begins. */
    private static void errorPositions() {
        String signs = "Tcbrtmnsfov0123456789AZa";
        for (int run = 0; run < 3000; run++) {
            StringBuilder text = new StringBuilder("T");
            for (int k = 0; k < 12; k++) {
                text.append(signs.charAt(pick(signs.length())));
            }
            int want = 0;
            while (want < text.length() && canGoOn(text.substring(0, want + 1))) {
                want++;
            }
            if (want == text.length() && isDay(text.toString())) {
                want = -1;
            }
            TakeLog fresh = new TakeLog();
            Check.type(fresh, text.toString());
            Check.due("errorPosition of " + text, fresh.errorPosition(), want);
        }
    }

    private static boolean isDay(String text) {
        Model fresh = new Model();
        for (int k = 0; k < text.length(); k++) {
            fresh.append(text.charAt(k));
        }
        return fresh.isDay();
    }

    private static boolean canGoOn(String text) {
        String[] rests = {"", "1", "9", "0", "01", "10", "00", "001", "100", "A", "1A", "0A", "9A", "01A", "A01", "1A01",
            "01A01"};
        for (String rest : rests) {
            if (isDay(text + rest)) {
                return true;
            }
        }
        return false;
    }

    private static int pick(int n) {
        seed = seed * 6364136223846793005L + 1442695040888963407L;
        return (int) ((seed >>> 33) % n);
    }

    private static boolean coin() {
        return pick(2) == 1;
    }

    /** Mostly from low to high, seldom outside. */
    private static int near(int low, int high) {
        switch (pick(24)) {
            case 0: return low - 1;
            case 1: return high + 1;
            case 2: return new int[] {Integer.MIN_VALUE, Integer.MAX_VALUE, -1, low, high}[pick(5)];
            default: return low + pick(high - low + 1);
        }
    }

    /** Mostly a take that is there. */
    private static int someTake() {
        return near(0, Math.max(0, log.about(0) - 1));
    }

    private static void same(String what, Check.Call got, Check.Call want) {
        String answer = Check.outcome(got);
        Check.due(what, answer, Check.outcome(want));
        Check.due(what + ": all behind it", Check.everything(log).substring(Check.everything(log).indexOf("about")),
                model.everything());
        Check.due(what + ": a day", log.errorPosition() == -1 ? 1 : 0, model.isDay() ? 1 : 0);
    }

    private static void step(String where) {
        int kind = pick(40);
        if (kind < 10) {
            shoot(where);
        } else if (kind < 20) {
            act(where, kind);
        } else if (kind < 24) {
            keep(where, kind);
        } else if (kind < 26) {
            text(where);
        } else {
            ask(where, kind);
        }
    }

    private static void shoot(String where) {
        int seconds = near(1, coin() ? 120 : 20);
        boolean sound = pick(4) > 0;
        same(where + "shoot(" + seconds + ", " + sound + ")", () -> log.shoot(seconds, sound),
                () -> model.shoot(seconds, sound));
    }

    private static void act(String where, int kind) {
        int a = near(1, 2);
        int b = near(0, 2);
        int c = near(1, 4);
        int i = someTake();
        boolean is = coin();
        switch (kind) {
            case 10: same(where + "call", () -> log.call(a, b), () -> model.call(a, b)); break;
            case 11: same(where + "board", () -> log.board(a, b, c), () -> model.board(a, b, c)); break;
            case 12: same(where + "right", log::right, model::right); break;
            case 13: same(where + "newCamera", log::newCamera, model::newCamera); break;
            case 14: same(where + "newSound", log::newSound, model::newSound); break;
            case 15: same(where + "circle", () -> log.circle(i, is), () -> model.circle(i, is)); break;
            case 16: same(where + "falseStart", () -> log.falseStart(i, is), () -> model.falseStart(i, is)); break;
            case 17: same(where + "fix", () -> log.fix(i), () -> model.fix(i)); break;
            case 18:
                int seconds = near(-99, 99);
                same(where + "off", () -> log.off(seconds), () -> model.off(seconds));
                break;
            default:
                int what = near(0, 3);
                int[][] ranges = {{60, 999}, {60, 3600}, {0, 60}, {0, 1}};
                int v = what < 0 || what > 3 ? 0 : near(ranges[what][0], coin() ? ranges[what][1] : ranges[what][0] + 1);
                same(where + "set", () -> log.set(what, v), () -> model.set(what, v));
                break;
        }
    }

    private static void keep(String where, int kind) {
        int slot = near(0, 1);
        if (kind == 20 && pick(3) == 0) {
            same(where + "restore", () -> log.restore(slot), () -> model.restore(slot));
        } else if (kind == 21) {
            same(where + "save", () -> log.save(slot), () -> model.save(slot));
        } else {
            for (int k = pick(pick(12) == 0 ? 18 : 3); k >= 0; k--) {
                same(where + "undo", log::undo, model::undo);
            }
        }
    }

    private static void text(String where) {
        if (coin()) {
            int c = near(0, 255);
            same(where + "append", () -> log.append(c), () -> model.append(c));
            return;
        }
        same(where + "clearText", log::clearText, model::clearText);
        StringBuilder day = new StringBuilder("T");
        for (int k = pick(34); k >= 0; k--) {
            day.append(command());
        }
        for (int k = 0; k < day.length(); k++) {
            char c = day.charAt(k);
            Check.due(where + "append", Check.outcome(() -> log.append(c)), Check.outcome(() -> model.append(c)));
        }
        same(where + "load of " + day, log::load, model::load);
    }

    private static String command() {
        String setup = "0" + (1 + pick(3)) + (char) ('A' + pick(3));
        String take = (pick(2) + "") + (pick(9) + 1);
        switch (pick(14)) {
            case 0: return "c" + setup;
            case 1: return "b" + setup + take;
            case 2: return "r";
            case 3: return "n";
            case 4: return "s";
            case 5: return "f" + take;
            case 6: return "o" + take;
            case 7: return "v" + pick(10) + pick(10);
            default: return (coin() ? "t" : "m") + "0" + pick(10) + (pick(9) + 1);
        }
    }

    private static void ask(String where, int kind) {
        int i = someTake();
        int a = near(1, 3);
        int b = near(0, 2);
        int c = near(1, 5);
        int far = near(0, 400);
        boolean said = coin();
        switch (kind) {
            case 26: same(where + "find", () -> log.find(a, b, c, said), () -> model.find(a, b, c, said)); break;
            case 27: same(where + "atCamera", () -> log.atCamera(a, far), () -> model.atCamera(a, far)); break;
            case 28: same(where + "atSound", () -> log.atSound(a, far), () -> model.atSound(a, far)); break;
            case 29: same(where + "atTime", () -> log.atTime(far), () -> model.atTime(far)); break;
            case 30: same(where + "byFile", () -> log.byFile(a, c), () -> model.byFile(a, c)); break;
            case 31: same(where + "synced", () -> log.synced(i), () -> model.synced(i)); break;
            case 32:
                if (pick(4) == 0) {
                    same(where + "bestShift", log::bestShift, model::bestShift);
                }
                break;
            case 33:
                int seconds = near(1, 120);
                int n = near(1, 99);
                same(where + "rolls", () -> log.rolls(seconds, n), () -> model.rolls(seconds, n));
                break;
            case 34: same(where + "ifFalse", () -> log.ifFalse(i), () -> model.ifFalse(i)); break;
            case 35:
                int what = near(0, 4);
                same(where + "scene", () -> log.scene(a, what), () -> model.scene(a, what));
                break;
            case 36:
                int m = near(1, 80);
                long start = seed;
                same(where + "simulate", () -> log.simulate(start, m), () -> model.simulate(start, m));
                break;
            default: script(where); break;
        }
    }

    private static void script(String where) {
        int n = near(1, 3);
        long script = 0;
        for (int k = 0; k < Math.max(1, Math.min(3, n)); k++) {
            script = script * 100000 + group();
        }
        long all = pick(30) == 0 ? script * 1000 : pick(30) == 0 ? -script : script;
        same(where + "runScript(" + n + ", " + all + ")", () -> log.runScript(n, all), () -> model.runScript(n, all));
    }

    private static int group() {
        int i = pick(log.about(0) + 1) * 100;
        int b = pick(9) == 0 ? pick(12) : pick(2);
        switch (pick(12)) {
            case 0: return 10000 + pick(2) * 1000 + pick(125);
            case 1: return 20000 + b;
            case 2: return 30000 + i + b;
            case 3: return 40000 + pick(4) * 100 + pick(30);
            case 4: return 50000 + pick(4) / 3;
            case 5:
            case 6: return 60000 + i + b;
            case 7: return 70000 + pick(9);
            case 8:
            case 9: return 80000 + i + (coin() ? i / 100 : pick(log.about(0) + 1));
            case 10: return 90000 + pick(300);
            default: return pick(100000);
        }
    }
}
