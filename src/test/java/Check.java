/** What all tests use: compares answers, and counts those that are not due. */
final class Check {
    /** A call that may throw. */
    interface Call {
        long answer();
    }

    private static int compared = 0;
    private static int wrong = 0;

    private Check() {
    }

    static void due(String what, long got, long want) {
        compared++;
        if (got != want) {
            wrong++;
            System.out.println(what + " answered " + got + ", due is " + want);
        }
    }

    static void due(String what, String got, String want) {
        compared++;
        if (!got.equals(want)) {
            wrong++;
            System.out.println(what + " answered " + got + ", due is " + want);
        }
    }

    /** The call throws exactly this, and neither the answers nor the remembered states become different. */
    static void refuses(TakeLog log, Class<? extends RuntimeException> kind, String what, Call call) {
        String before = everything(log);
        due(what, outcome(call), "throws." + kind.getSimpleName());
        due(what + ": all behind it", everything(log), before);
    }

    /** The answer of a call as a text, or the name of what it threw. */
    static String outcome(Call call) {
        try {
            return Long.toString(call.answer());
        } catch (RuntimeException e) {
            return "throws." + e.getClass().getSimpleName();
        }
    }

    static void end(String name) {
        System.out.println(name + ": " + compared + " compared, " + wrong + " not as due");
        if (wrong != 0 || compared == 0) {
            System.exit(1);
        }
    }

    /** All that the calls without side effects tell of the state and the text. */
    static String everything(TakeLog log) {
        return "error " + log.errorPosition() + " " + state(log);
    }

    /** All that the calls without side effects tell of the state. */
    static String state(TakeLog log) {
        StringBuilder all = new StringBuilder("about");
        for (int what = 0; what <= 16; what++) {
            all.append(' ').append(log.about(what));
        }
        all.append(" settings");
        for (int what = 0; what <= 3; what++) {
            all.append(' ').append(log.setting(what));
        }
        for (int i = 0; i < log.about(0); i++) {
            all.append('\n').append(line(log, i)).append(" |");
            for (int what = 0; what <= 16; what++) {
                all.append(' ').append(log.take(i, what));
            }
        }
        return all.toString();
    }

    /** What is seen and what is hidden: the state, the remembered ones, those in the slots, the text; uses them up. */
    static String drained(TakeLog log) {
        StringBuilder all = new StringBuilder(everything(log));
        for (int k = 0; k < 16; k++) {
            all.append("\nundo ").append(outcome(log::undo)).append('\n').append(everything(log));
        }
        for (int slot = 0; slot < 2; slot++) {
            int from = slot;
            all.append("\nrestore ").append(outcome(() -> log.restore(from))).append('\n').append(everything(log));
        }
        all.append("\nload ").append(outcome(log::load)).append('\n').append(everything(log));
        return all.append("\nlength ").append(log.clearText()).toString();
    }

    static String line(TakeLog log, int i) {
        StringBuilder line = new StringBuilder();
        for (int k = 0; k < 100 && log.line(i, k) != TakeLog.NONE; k++) {
            line.append((char) log.line(i, k));
        }
        return line.toString();
    }

    static void type(TakeLog log, String text) {
        for (int k = 0; k < text.length(); k++) {
            log.append(text.charAt(k));
        }
    }

    static TakeLog loaded(String text) {
        TakeLog log = new TakeLog();
        type(log, text);
        log.load();
        return log;
    }

    static void about(TakeLog log, String what, int... from0) {
        for (int k = 0; k < from0.length; k++) {
            due(what + ": about(" + k + ")", log.about(k), from0[k]);
        }
    }

    static void take(TakeLog log, int i, int... from0) {
        for (int k = 0; k < from0.length; k++) {
            due("take(" + i + ", " + k + ")", log.take(i, k), from0[k]);
        }
    }
}
