/** Promises 2 to 5: append, clearText, errorPosition, load. */
public final class TextTest {
    public static void main(String[] args) {
        buffer();
        daysAndErrors();
        loading();
        loadForgets();
        Check.end("TextTest");
    }

    private static void buffer() {
        TakeLog log = new TakeLog();
        Check.due("clearText of an empty text", log.clearText(), 0);
        Check.due("append(0)", log.append(0), 1);
        Check.due("append(255)", log.append(255), 2);
        Check.refuses(log, IllegalArgumentException.class, "append(-1)", () -> log.append(-1));
        Check.refuses(log, IllegalArgumentException.class, "append(256)", () -> log.append(256));
        Check.due("clearText", log.clearText(), 2);
        Check.due("clearText again", log.clearText(), 0);
        Check.due("append", log.append('T'), 1);
        for (int k = 2; k <= 120; k++) {
            Check.due("append the character " + k, log.append('n'), k);
        }
        Check.refuses(log, IllegalStateException.class, "append to a full text", () -> log.append('n'));
        Check.refuses(log, IllegalArgumentException.class, "append(256) to a full text", () -> log.append(256));
        Check.refuses(log, IllegalArgumentException.class, "append(-1) to a full text", () -> log.append(-1));
        Check.due("a full day", log.errorPosition(), TakeLog.NONE);
        Check.due("load of a full day", log.load(), 0);
        Check.due("119 new camera rolls", log.about(6), 120);
        Check.due("clearText of a full text", log.clearText(), 120);
        Check.due("append behind that", log.append('T'), 1);
    }

    private static void error(String text, int want) {
        TakeLog log = new TakeLog();
        Check.type(log, text);
        Check.due("errorPosition of " + text, log.errorPosition(), want);
        if (want != TakeLog.NONE) {
            Check.refuses(log, IllegalStateException.class, "load of " + text, log::load);
        }
        Check.due("the length of " + text, log.clearText(), text.length());
    }

    private static void days(String... texts) {
        for (String text : texts) {
            error(text, TakeLog.NONE);
        }
    }

    private static void daysAndErrors() {
        days("T", "Tr", "Tn", "Ts", "Tc01A", "Tc99Z", "Tb01A01", "Tb99Z99", "Tt001", "Tt120", "Tt099", "Tt100", "Tt110",
                "Tt119", "Tm001", "Tm120", "Tf00", "Tf23", "Tf19", "To00", "To23", "To20", "Tv00", "Tv99", "Tv50",
                "Tc10Brt010m020nsf00o01v49b10B09");
        error("", 0);
        error("t", 0);
        error(" T", 0);
        error("\0", 0);
        for (String bad : new String[] {"T ", "TT", "TC", "Tt1200", "Ta", "Td", "Tz", "T0", "T\0", "Tu", "Tw", "T\377"}) {
            error(bad, bad.equals("Tt1200") ? 5 : 1);
        }
        error("Tc", 2);
        error("Tc0", 3);
        error("Tc01", 4);
        error("Tcx", 2);
        error("Tc00", 3);
        error("Tc0x", 3);
        error("Tc01a", 4);
        error("Tc01@", 4);
        error("Tc01[", 4);
        error("Tc011", 4);
        error("Tc01AA", 5);
        error("Tb01A", 5);
        error("Tb01A0", 6);
        error("Tb01A00", 6);
        error("Tb00", 3);
        error("Tb01A:", 5);
        error("Tb01A/", 5);
        error("Tb01AA", 5);
        error("Tb01", 4);
        error("Tt", 2);
        error("Tt2", 2);
        error("Tt000", 4);
        error("Tt00", 4);
        error("Tt121", 4);
        error("Tt13", 3);
        error("Tt12", 4);
        error("Tm121", 4);
        error("Tm2", 2);
        error("Tm000", 4);
        error("Tf3", 2);
        error("Tf24", 3);
        error("Tf2", 3);
        error("To24", 3);
        error("To3", 2);
        error("Tv", 2);
        error("Tv0", 3);
        error("Tv0 ", 3);
        error("Tv100", 4);
        error("Trn s", 3);
    }

    private static void loading() {
        TakeLog log = new TakeLog();
        Check.type(log, "Tc03Drt010b03D05m020o00f01nst030v10t011");
        Check.due("load", log.load(), 0);
        Check.about(log, "loaded", 4, 3, 3, 3, 3, 8, 2, 41, 2, 41, 111, -40, 3, 1, 10, 1, 1);
        Check.due("line", Check.line(log, 0), "3D/1* c1:0 s1:1");
        Check.due("line", Check.line(log, 1), "3D/5?x c1:10");
        Check.due("line", Check.line(log, 2), "3D/6? c2:0 s2:1");
        Check.due("line", Check.line(log, 3), "3D/7? c2:30 s2:2");
        Check.take(log, 3, 3, 3, 3, 3, 3, 7, 2, 30, 11, 2, 30, 2, 90, 50, 0, 0, 0);
        Check.due("the text is kept", log.clearText(), 39);
        leftOut();
    }

    private static void leftOut() {
        TakeLog log = new TakeLog();
        Check.type(log, "Tf00o00t120m120t120t001m001f03o03o02f23v99v00");
        Check.due("load with commands left out", log.load(), 7);
        Check.due("takes", log.about(0), 3);
        Check.due("length of the last", log.take(2, 8), 60);
        Check.due("circled", log.about(13), 1);
        Check.due("false starts", log.about(15), 0);
        Check.due("off", log.about(11), -50);
        log.clearText();
        StringBuilder many = new StringBuilder("T");
        for (int k = 0; k < 26; k++) {
            many.append("t010");
        }
        Check.type(log, many.toString());
        Check.due("load of 26 takes", log.load(), 2);
        Check.due("24 takes", log.about(0), 24);
    }

    private static void loadForgets() {
        TakeLog log = new TakeLog();
        log.set(0, 60);
        log.set(3, 0);
        log.call(5, 5);
        log.board(6, 6, 6);
        log.off(9);
        log.newCamera();
        log.newSound();
        log.shoot(9, true);
        log.save(0);
        log.save(1);
        log.append('x');
        Check.refuses(log, IllegalStateException.class, "load of x", log::load);
        Check.due("undo is kept by a load that throws", log.undo(), 7);
        Check.due("a slot is kept by a load that throws", log.restore(1), 1);
        log.newCamera();
        log.clearText();
        log.append('T');
        Check.due("load", log.load(), 0);
        TakeLog fresh = new TakeLog();
        fresh.append('T');
        Check.due("as new", Check.everything(log), Check.everything(fresh));
        Check.refuses(log, IllegalStateException.class, "undo behind a load", log::undo);
        Check.refuses(log, IllegalStateException.class, "restore(0) behind a load", () -> log.restore(0));
        Check.refuses(log, IllegalStateException.class, "restore(1) behind a load", () -> log.restore(1));
        log.append('r');
        log.load();
        Check.refuses(log, IllegalStateException.class, "undo of a command of the text", log::undo);
    }
}
