import java.util.ArrayDeque;
import java.util.ArrayList;
import java.util.Deque;
import java.util.List;

/** ACTIONS AND UNDO, promises 21, 34, 35: the sentences that name a border. */
public final class UndoEdgesTest {
    private static final String REFUSED = "throws.IllegalStateException";

    /** Something done with a log. */
    private interface Deed {
        void on(TakeLog log);
    }

    public static void main(String[] args) {
        atMostFourteen();
        eachActionIsRemembered();
        whatIsNoAction();
        actionsAndUndosMixed();
        textAndSlotsStay();
        slotsKeepTheirStates();
        restoreForgets();
        Check.end("UndoEdgesTest");
    }

    /** Different actions, so that each state is another one. */
    private static void act(TakeLog log, int k) {
        switch (k % 7) {
            case 0: log.newCamera(); break;
            case 1: log.newSound(); break;
            case 2: log.off(k % 99 + 1); break;
            case 3: log.call(k % 99 + 1, k % 26); break;
            case 4: log.board(k % 99 + 1, k % 26, k % 99 + 1); break;
            case 5: log.set(0, 100 + k); break;
            default: log.shoot(k % 120 + 1, true); break;
        }
    }

    /** "At most 14 states are remembered; when one more is remembered, the oldest one is forgotten." */
    private static void atMostFourteen() {
        for (int actions = 0; actions <= 60; actions++) {
            TakeLog log = new TakeLog();
            List<String> before = new ArrayList<>();
            for (int k = 0; k < actions; k++) {
                before.add(Check.state(log));
                act(log, k);
            }
            int remembered = Math.min(14, actions);
            for (int k = 1; k <= remembered; k++) {
                Check.due("undo " + k + " of " + actions, log.undo(), remembered - k);
                Check.due("the state behind it", Check.state(log), before.get(actions - k));
            }
            String last = Check.state(log);
            Check.due("one undo more", Check.outcome(log::undo), REFUSED);
            Check.due("changes nothing", Check.state(log), last);
        }
    }

    private static List<Deed> actions() {
        List<Deed> all = new ArrayList<>();
        all.add(log -> log.call(2, 1));
        all.add(log -> log.board(2, 1, 2));
        all.add(log -> log.right());
        all.add(log -> log.shoot(1, true));
        all.add(log -> log.shoot(1, false));
        all.add(log -> log.newCamera());
        all.add(log -> log.newSound());
        all.add(log -> log.circle(0, true));
        all.add(log -> log.circle(0, false));
        all.add(log -> log.falseStart(0, true));
        all.add(log -> log.falseStart(0, false));
        all.add(log -> log.fix(0));
        all.add(log -> log.off(0));
        all.add(log -> log.off(99));
        all.add(log -> log.set(0, 300));
        all.add(log -> log.set(1, 60));
        all.add(log -> log.set(2, 60));
        all.add(log -> log.set(3, 0));
        return all;
    }

    private static TakeLog shot() {
        TakeLog log = Check.loaded("Tc02Bb03C07t010c02Brt010");
        Check.due("nothing is remembered", Check.outcome(log::undo), REFUSED);
        return log;
    }

    /** "Each call of one of them that does not throw an exception is an action, also if nothing becomes different". */
    private static void eachActionIsRemembered() {
        int k = 0;
        for (Deed action : actions()) {
            TakeLog log = shot();
            String before = Check.state(log);
            action.on(log);
            String once = Check.state(log);
            action.on(log);
            Check.due("undo of the second action " + k, log.undo(), 1);
            Check.due("the state behind it " + k, Check.state(log), once);
            Check.due("undo of the first action " + k, log.undo(), 0);
            Check.due("the state behind it " + k, Check.state(log), before);
            Check.due("no more " + k, Check.outcome(log::undo), REFUSED);
            k++;
        }
        TakeLog idle = shot();
        String before = Check.state(idle);
        idle.right();
        idle.call(2, 1);
        idle.circle(1, false);
        idle.falseStart(1, false);
        idle.fix(1);
        idle.off(0);
        idle.set(0, 300);
        idle.set(1, 900);
        idle.set(2, 10);
        idle.set(3, 1);
        idle.board(2, 1, 2);
        idle.right();
        for (int left = 11; left >= 0; left--) {
            Check.due("undo of an action", idle.undo(), left);
        }
        Check.due("the state behind all", Check.state(idle), before);
    }

    private static List<Deed> noActions() {
        List<Deed> all = new ArrayList<>();
        all.add(log -> log.append('T'));
        all.add(log -> log.clearText());
        all.add(log -> log.errorPosition());
        all.add(log -> Check.state(log));
        all.add(log -> log.find(1, 0, 1, true));
        all.add(log -> log.find(2, 1, 1, false));
        all.add(log -> log.atCamera(1, 0));
        all.add(log -> log.atSound(1, 0));
        all.add(log -> log.atTime(0));
        all.add(log -> log.byFile(1, 1));
        all.add(log -> log.synced(0));
        all.add(log -> log.bestShift());
        all.add(log -> log.rolls(120, 99));
        all.add(log -> log.ifFalse(0));
        all.add(log -> log.scene(2, 4));
        all.add(log -> log.runScript(3, 11010_20000_30001L));
        all.add(log -> log.runScript(3, 40101_50000_20001L));
        for (int seed = 0; seed < 20; seed++) {
            long x = seed;
            all.add(log -> log.simulate(x, 80));
        }
        all.add(log -> log.save(0));
        all.add(log -> log.save(1));
        all.add(log -> Check.outcome(() -> log.shoot(121, true)));
        all.add(log -> Check.outcome(() -> log.call(0, 0)));
        all.add(log -> Check.outcome(() -> log.board(1, 26, 1)));
        all.add(log -> Check.outcome(() -> log.circle(2, true)));
        all.add(log -> Check.outcome(() -> log.falseStart(-1, true)));
        all.add(log -> Check.outcome(() -> log.fix(2)));
        all.add(log -> Check.outcome(() -> log.off(100)));
        all.add(log -> Check.outcome(() -> log.set(3, 2)));
        all.add(log -> Check.outcome(() -> log.restore(2)));
        return all;
    }

    /** The questions "change nothing", a refused call is no action, and neither are those of the text and save. */
    private static void whatIsNoAction() {
        int k = 0;
        for (Deed deed : noActions()) {
            TakeLog none = shot();
            String before = Check.state(none);
            deed.on(none);
            Check.due("the state behind no action " + k, Check.state(none), before);
            Check.due("undo behind no action " + k, Check.outcome(none::undo), REFUSED);
            TakeLog one = shot();
            one.newCamera();
            deed.on(one);
            Check.due("just the action is remembered " + k, one.undo(), 0);
            Check.due("the state behind its undo " + k, Check.state(one), before);
            TakeLog many = shot();
            for (int a = 0; a < 14; a++) {
                many.newSound();
            }
            deed.on(many);
            for (int left = 13; left >= 0; left--) {
                Check.due("all 14 are remembered " + k, many.undo(), left);
            }
            Check.due("the oldest of 14 " + k, Check.state(many), before);
            k++;
        }
        TakeLog loaded = shot();
        loaded.newCamera();
        loaded.load();
        Check.due("load is no action", Check.outcome(loaded::undo), REFUSED);
        loaded.newCamera();
        Check.due("an action behind it", loaded.undo(), 0);
    }

    /** "undo is none": undos behind undos go farther back, and actions behind undos are remembered again. */
    private static void actionsAndUndosMixed() {
        long x = 7;
        for (int run = 0; run < 60; run++) {
            TakeLog log = new TakeLog();
            Deque<String> past = new ArrayDeque<>();
            for (int k = 0; k < 120; k++) {
                x = x * 6364136223846793005L + 1442695040888963407L;
                if ((x >>> 33) % 5 < (k / 30 % 2 == 0 ? 3 : 1)) {
                    past.addLast(Check.state(log));
                    act(log, k % 7 == 6 && log.about(0) == 24 ? k + 1 : k);
                    if (past.size() > 14) {
                        past.removeFirst();
                    }
                } else if (past.isEmpty()) {
                    Check.due("undo of none", Check.outcome(log::undo), REFUSED);
                } else {
                    String want = past.removeLast();
                    Check.due("undo", log.undo(), past.size());
                    Check.due("the state behind it", Check.state(log), want);
                }
            }
        }
    }

    /** "the state, which consists of everything but the text and the save slots" */
    private static void textAndSlotsStay() {
        TakeLog log = new TakeLog();
        log.shoot(5, true);
        log.append('T');
        log.save(0);
        log.append('n');
        Check.due("undo", log.undo(), 0);
        Check.due("the takes", log.about(0), 0);
        Check.due("the text stays: a day", log.errorPosition(), -1);
        Check.due("the slot stays", log.restore(0), 1);
        Check.due("the text stays", log.append('t'), 3);
        Check.due("the text stays: Tnt", log.errorPosition(), 3);
        Check.due("clearText", log.clearText(), 3);
        log.newCamera();
        log.undo();
        Check.due("undo gives no text back", log.clearText(), 0);
        log.restore(0);
        Check.due("restore gives no text back", log.clearText(), 0);
    }

    private static void slotsKeepTheirStates() {
        TakeLog log = new TakeLog();
        Check.due("save of no take", log.save(0), 0);
        String none = Check.state(log);
        for (int k = 0; k < 24; k++) {
            log.shoot(3, true);
        }
        log.set(0, 999);
        log.set(1, 3600);
        log.set(2, 60);
        log.set(3, 0);
        log.call(99, 25);
        log.board(98, 24, 99);
        log.off(-99);
        log.newCamera();
        log.newSound();
        log.circle(23, true);
        log.falseStart(0, true);
        Check.due("save of 24 takes", log.save(1), 24);
        String full = Check.state(log);
        for (int k = 0; k < 3; k++) {
            Check.due("restore(0)", log.restore(0), 0);
            Check.due("no take", Check.state(log), none);
            log.shoot(4, true);
            Check.due("restore(1)", log.restore(1), 24);
            Check.due("24 takes", Check.state(log), full);
            log.fix(3);
            log.circle(3, true);
            log.newSound();
        }
        Check.due("saved over", log.save(0), 24);
        String newer = Check.state(log);
        Check.due("the other slot stays", log.restore(1), 24);
        Check.due("24 takes", Check.state(log), full);
        Check.due("the newer one", log.restore(0), 24);
        Check.due("the newer state", Check.state(log), newer);
        log.append('T');
        log.load();
        Check.due("no slot 0 since the last load", Check.outcome(() -> log.restore(0)), REFUSED);
        Check.due("no slot 1 since the last load", Check.outcome(() -> log.restore(1)), REFUSED);
        Check.due("save again", log.save(1), 0);
        Check.due("restore(1)", log.restore(1), 0);
        Check.due("but not the other", Check.outcome(() -> log.restore(0)), REFUSED);
    }

    /** restore "forgets all remembered states": none, one, 14 and more of them. */
    private static void restoreForgets() {
        for (int actions = 0; actions <= 30; actions++) {
            TakeLog log = new TakeLog();
            log.save(0);
            String saved = Check.state(log);
            for (int k = 0; k < actions; k++) {
                act(log, k);
            }
            String before = Check.state(log);
            Check.due("restore(1)", Check.outcome(() -> log.restore(1)), REFUSED);
            Check.due("a restore that throws changes nothing", Check.state(log), before);
            Check.due("restore(0)", log.restore(0), 0);
            Check.due("undo", Check.outcome(log::undo), REFUSED);
            Check.due("the saved state", Check.state(log), saved);
            for (int k = 0; k < 15; k++) {
                log.newCamera();
            }
            for (int left = 13; left >= 0; left--) {
                Check.due("undo of the actions behind it", log.undo(), left);
                Check.due("the camera roll", log.about(6), left + 2);
            }
            Check.due("no more", Check.outcome(log::undo), REFUSED);
        }
    }
}
