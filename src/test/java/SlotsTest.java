/** Promises 34 and 35: save, restore. */
public final class SlotsTest {
    public static void main(String[] args) {
        TakeLog log = new TakeLog();
        for (int bad : new int[] {-1, 2, Integer.MIN_VALUE, Integer.MAX_VALUE}) {
            Check.refuses(log, IndexOutOfBoundsException.class, "save " + bad, () -> log.save(bad));
            Check.refuses(log, IndexOutOfBoundsException.class, "restore " + bad, () -> log.restore(bad));
        }
        Check.refuses(log, IllegalStateException.class, "restore(0)", () -> log.restore(0));
        log.append('T');
        log.call(3, 4);
        log.shoot(10, true);
        log.set(2, 20);
        String one = Check.everything(log);
        Check.due("save(1)", log.save(1), 1);
        Check.refuses(log, IllegalStateException.class, "the other slot", () -> log.restore(0));
        Check.due("save is no action", log.undo(), 2);
        log.set(2, 20);
        log.shoot(10, false);
        log.circle(0, true);
        String two = Check.everything(log);
        Check.due("save(0)", log.save(0), 2);
        log.newCamera();
        Check.due("restore(1)", log.restore(1), 1);
        Check.due("the first state", Check.everything(log), one);
        Check.refuses(log, IllegalStateException.class, "undo behind a restore", log::undo);
        log.falseStart(0, true);
        Check.due("undo behind a restore and an action", log.undo(), 0);
        log.off(5);
        Check.refuses(log, IndexOutOfBoundsException.class, "restore(2)", () -> log.restore(2));
        Check.due("a restore that throws forgets nothing", log.undo(), 0);
        Check.due("restore(0)", log.restore(0), 2);
        Check.due("the second state", Check.everything(log), two);
        log.shoot(10, false);
        Check.due("restore(0) again", log.restore(0), 2);
        Check.due("the slot keeps it", Check.everything(log), two);
        Check.due("restore(1) again", log.restore(1), 1);
        Check.due("and so does the other", Check.everything(log), one);
        Check.due("saved once more", log.save(0), 1);
        log.newSound();
        log.restore(0);
        Check.due("the newer state", Check.everything(log), one);
        log.append('n');
        log.restore(1);
        Check.due("the text is no part of it", log.clearText(), 2);
        manyActions();
        Check.end("SlotsTest");
    }

    private static void manyActions() {
        TakeLog log = new TakeLog();
        log.save(0);
        for (int k = 0; k < 20; k++) {
            log.newCamera();
        }
        log.restore(0);
        for (int k = 0; k < 14; k++) {
            log.newCamera();
        }
        for (int k = 13; k >= 0; k--) {
            Check.due("undo behind a restore", log.undo(), k);
            Check.due("the camera roll", log.about(6), k + 1);
        }
        Check.refuses(log, IllegalStateException.class, "no more", log::undo);
    }
}
