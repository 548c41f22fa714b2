import java.util.ArrayDeque;
import java.util.ArrayList;
import java.util.Deque;
import java.util.HashSet;
import java.util.List;
import java.util.Set;
import java.util.regex.Matcher;
import java.util.regex.Pattern;

/** A second reading of the document, made of plain objects, which the class is compared with. */
final class Model {
    static final class Take implements Cloneable {
        String meant;
        String said;
        int saidTake;
        int camera;
        int cameraFrom;
        int length;
        boolean sound;
        int roll;
        int rollFrom;
        int file;
        int time;
        int stamp;
        boolean circled;
        boolean isFalse;

        @Override
        public Take clone() {
            try {
                return (Take) super.clone();
            } catch (CloneNotSupportedException e) {
                throw new AssertionError(e);
            }
        }
    }

    static final class State {
        List<Take> takes = new ArrayList<>();
        String meant = setup(1, 0);
        String said = setup(1, 0);
        int saidTake = 1;
        int camera = 1;
        int cameraUsed = 0;
        int roll = 1;
        int rollUsed = 0;
        int time = 0;
        int off = 0;
        int[] settings = {300, 900, 10, 1};

        State copy() {
            State c = new State();
            for (Take t : takes) {
                c.takes.add(t.clone());
            }
            c.meant = meant;
            c.said = said;
            c.saidTake = saidTake;
            c.camera = camera;
            c.cameraUsed = cameraUsed;
            c.roll = roll;
            c.rollUsed = rollUsed;
            c.time = time;
            c.off = off;
            c.settings = settings.clone();
            return c;
        }

        int rightNumber(int i) {
            return (int) takes.subList(0, i).stream()
                    .filter(t -> t.meant.equals(takes.get(i).meant) && !t.isFalse).count() + 1;
        }

        int nextNumber() {
            return (int) takes.stream().filter(t -> t.meant.equals(meant) && !t.isFalse).count() + 1;
        }

        boolean isRight(int i) {
            Take t = takes.get(i);
            return t.said.equals(t.meant) && t.saidTake == rightNumber(i);
        }

        int wrong() {
            int n = 0;
            for (int i = 0; i < takes.size(); i++) {
                n += isRight(i) ? 0 : 1;
            }
            return n;
        }

        int left() {
            return Math.max(settings[0] - cameraUsed, 0);
        }

        int synced(int i, int shift) {
            Take a = takes.get(i);
            int best = -1;
            int most = 0;
            for (int j = 0; j < takes.size(); j++) {
                Take b = takes.get(j);
                int both = 0;
                for (int s = a.time; b.sound && s < a.time + a.length; s++) {
                    both += s >= b.stamp + shift && s < b.stamp + shift + b.length ? 1 : 0;
                }
                if (both > most) {
                    most = both;
                    best = j;
                }
            }
            return best;
        }

        int unlike() {
            int n = 0;
            for (int i = 0; i < takes.size(); i++) {
                n += synced(i, 0) == (takes.get(i).sound ? i : -1) ? 0 : 1;
            }
            return n;
        }
    }

    private static final Pattern COMMAND = Pattern.compile("c(\\d\\d)([A-Z])|b(\\d\\d)([A-Z])(\\d\\d)|([rns])"
            + "|([tm])(\\d\\d\\d)|([fo])(\\d\\d)|v(\\d\\d)");

    State now = new State();
    private Deque<State> past = new ArrayDeque<>();
    private State[] slots = new State[2];
    private String text = "";

    static String setup(int scene, int letter) {
        return scene + "" + (char) ('A' + letter);
    }

    static int sceneOf(String setup) {
        return Integer.parseInt(setup.substring(0, setup.length() - 1));
    }

    static int letterOf(String setup) {
        return setup.charAt(setup.length() - 1) - 'A';
    }

    private static void argument(boolean good) {
        if (!good) {
            throw new IllegalArgumentException();
        }
    }

    private static void state(boolean good) {
        if (!good) {
            throw new IllegalStateException();
        }
    }

    private void exists(int i) {
        if (i < 0 || i >= now.takes.size()) {
            throw new IndexOutOfBoundsException();
        }
    }

    private void remember() {
        past.addLast(now.copy());
        if (past.size() > 14) {
            past.removeFirst();
        }
    }

    int append(int c) {
        argument(c >= 0 && c <= 255);
        state(text.length() < 120);
        text += (char) c;
        return text.length();
    }

    int clearText() {
        int n = text.length();
        text = "";
        return n;
    }

    boolean isDay() {
        return text.startsWith("T") && leftBehind() == text.length();
    }

    private int leftBehind() {
        Matcher m = COMMAND.matcher(text);
        int at = 1;
        while (at < text.length() && m.region(at, text.length()).lookingAt() && inRange(m)) {
            at = m.end();
        }
        return at;
    }

    private static boolean inRange(Matcher m) {
        return in(m.group(1), 1, 99) && in(m.group(3), 1, 99) && in(m.group(5), 1, 99) && in(m.group(8), 1, 120)
                && in(m.group(10), 0, 23);
    }

    private static boolean in(String number, int low, int high) {
        return number == null || Integer.parseInt(number) >= low && Integer.parseInt(number) <= high;
    }

    int load() {
        state(isDay());
        now = new State();
        slots = new State[2];
        int out = 0;
        Matcher m = COMMAND.matcher(text);
        for (int at = 1; at < text.length(); at = m.end()) {
            m.region(at, text.length()).lookingAt();
            try {
                command(m);
            } catch (IllegalStateException | IndexOutOfBoundsException e) {
                out++;
            }
        }
        past.clear();
        return out;
    }

    private void command(Matcher m) {
        if (m.group(1) != null) {
            call(Integer.parseInt(m.group(1)), m.group(2).charAt(0) - 'A');
        } else if (m.group(3) != null) {
            board(Integer.parseInt(m.group(3)), m.group(4).charAt(0) - 'A', Integer.parseInt(m.group(5)));
        } else if (m.group(6) != null) {
            int any = m.group(6).equals("r") ? right() : m.group(6).equals("n") ? newCamera() : newSound();
        } else if (m.group(7) != null) {
            shoot(Integer.parseInt(m.group(8)), m.group(7).equals("t"));
        } else if (m.group(9) != null && m.group(9).equals("f")) {
            falseStart(Integer.parseInt(m.group(10)), true);
        } else if (m.group(9) != null) {
            circle(Integer.parseInt(m.group(10)), true);
        } else {
            off(Integer.parseInt(m.group(11)) - 50);
        }
    }

    int call(int scene, int letter) {
        argument(scene >= 1 && scene <= 99 && letter >= 0 && letter <= 25);
        remember();
        now.meant = setup(scene, letter);
        return now.nextNumber();
    }

    int board(int scene, int letter, int take) {
        argument(scene >= 1 && scene <= 99 && letter >= 0 && letter <= 25 && take >= 1 && take <= 99);
        remember();
        now.said = setup(scene, letter);
        now.saidTake = take;
        return now.said.equals(now.meant) && now.saidTake == now.nextNumber() ? 1 : 0;
    }

    int right() {
        remember();
        now.said = now.meant;
        now.saidTake = now.nextNumber();
        return now.saidTake;
    }

    int shoot(int seconds, boolean sound) {
        argument(seconds >= 1 && seconds <= 120);
        state(now.takes.size() < 24 && now.left() > 0);
        remember();
        Take t = new Take();
        t.meant = now.meant;
        t.said = now.said;
        t.saidTake = now.saidTake;
        t.camera = now.camera;
        t.cameraFrom = now.cameraUsed;
        t.length = Math.min(seconds, now.left());
        t.time = now.time;
        t.stamp = now.time + now.off;
        t.sound = sound && now.rollUsed + t.length <= now.settings[1];
        if (t.sound) {
            t.roll = now.roll;
            t.rollFrom = now.rollUsed;
            t.file = 1 + (int) now.takes.stream().filter(o -> o.sound && o.roll == now.roll).count();
            now.rollUsed += t.length;
        }
        now.takes.add(t);
        now.cameraUsed += t.length;
        now.time += t.length + now.settings[2];
        now.saidTake = now.settings[3] == 0 || now.saidTake == 99 ? now.saidTake : now.saidTake + 1;
        return t.length;
    }

    int newCamera() {
        remember();
        now.cameraUsed = 0;
        return ++now.camera;
    }

    int newSound() {
        remember();
        now.rollUsed = 0;
        return ++now.roll;
    }

    int circle(int i, boolean is) {
        exists(i);
        remember();
        now.takes.get(i).circled = is;
        return (int) now.takes.stream().filter(t -> t.circled).count();
    }

    int falseStart(int i, boolean is) {
        exists(i);
        remember();
        now.takes.get(i).isFalse = is;
        return now.wrong();
    }

    int fix(int i) {
        exists(i);
        remember();
        int was = now.isRight(i) ? 0 : 1;
        now.takes.get(i).said = now.takes.get(i).meant;
        now.takes.get(i).saidTake = now.rightNumber(i);
        return was;
    }

    int off(int seconds) {
        argument(seconds >= -99 && seconds <= 99);
        remember();
        int was = now.off;
        now.off = seconds;
        return was;
    }

    int set(int what, int v) {
        int[][] range = {{60, 999}, {60, 3600}, {0, 60}, {0, 1}};
        argument(what >= 0 && what <= 3);
        argument(v >= range[what][0] && v <= range[what][1]);
        remember();
        int was = now.settings[what];
        now.settings[what] = v;
        return was;
    }

    int undo() {
        state(!past.isEmpty());
        now = past.removeLast();
        return past.size();
    }

    int find(int scene, int letter, int take, boolean said) {
        for (int i = 0; i < now.takes.size(); i++) {
            Take t = now.takes.get(i);
            String setup = said ? t.said : t.meant;
            int number = said ? t.saidTake : t.isFalse ? Integer.MIN_VALUE : now.rightNumber(i);
            if (sceneOf(setup) == scene && letterOf(setup) == letter && number == take && take > 0) {
                return i;
            }
        }
        return -1;
    }

    int atCamera(int roll, int second) {
        return first(t -> t.camera == roll && second >= t.cameraFrom && second < t.cameraFrom + t.length);
    }

    int atSound(int roll, int second) {
        return first(t -> t.sound && t.roll == roll && second >= t.rollFrom && second < t.rollFrom + t.length);
    }

    int atTime(int time) {
        return first(t -> time >= t.time && time < t.time + t.length);
    }

    int byFile(int roll, int file) {
        return first(t -> t.sound && t.roll == roll && t.file == file);
    }

    private int first(java.util.function.Predicate<Take> is) {
        for (int i = 0; i < now.takes.size(); i++) {
            if (is.test(now.takes.get(i))) {
                return i;
            }
        }
        return -1;
    }

    int synced(int i) {
        exists(i);
        return now.synced(i, 0);
    }

    int bestShift() {
        int best = 0;
        int most = -1;
        for (int shift = -99; shift <= 99; shift++) {
            int own = 0;
            for (int i = 0; i < now.takes.size(); i++) {
                own += now.takes.get(i).sound && now.synced(i, shift) == i ? 1 : 0;
            }
            if (own > most || own == most && Math.abs(shift) < Math.abs(best)) {
                most = own;
                best = shift;
            }
        }
        return best;
    }

    int rolls(int seconds, int n) {
        argument(seconds >= 1 && seconds <= 120 && n >= 1 && n <= 99);
        State s = now.copy();
        int loaded = 0;
        for (int k = 0; k < n; k++) {
            if (s.left() < seconds) {
                loaded++;
                s.cameraUsed = 0;
            }
            s.cameraUsed += seconds;
        }
        return loaded;
    }

    int ifFalse(int i) {
        exists(i);
        State s = now.copy();
        s.takes.get(i).isFalse = !s.takes.get(i).isFalse;
        int set = 0;
        for (int k = 0; k < s.takes.size(); k++) {
            set += now.isRight(k) == s.isRight(k) ? 0 : 1 << k;
        }
        return set;
    }

    int scene(int scene, int what) {
        argument(what >= 0 && what <= 4);
        int circled = 0;
        int seconds = 0;
        int takes = 0;
        Set<String> all = new HashSet<>();
        Set<String> good = new HashSet<>();
        for (Take t : now.takes) {
            if (sceneOf(t.meant) == scene) {
                takes++;
                seconds += t.length;
                all.add(t.meant);
                if (t.circled) {
                    circled++;
                    good.add(t.meant);
                }
            }
        }
        return new int[] {takes, circled, all.size(), seconds, all.size() - good.size()}[what];
    }

    int runScript(int n, long script) {
        argument(n >= 1 && n <= 3 && script >= 0 && Long.toString(script).length() <= 5 * n);
        String digits = "0".repeat(15) + script;
        digits = digits.substring(digits.length() - 5 * n);
        Model copy = new Model();
        copy.now = now.copy();
        for (int k = 0; k < n; k++) {
            boolean good;
            try {
                good = copy.group(digits.substring(5 * k, 5 * k + 5));
            } catch (IllegalArgumentException | IllegalStateException | IndexOutOfBoundsException e) {
                good = false;
            }
            if (!good) {
                return k;
            }
        }
        return -1;
    }

    private boolean group(String g) {
        int a = Integer.parseInt(g.substring(1, 3));
        int b = Integer.parseInt(g.substring(3, 5));
        int sss = Integer.parseInt(g.substring(2, 5));
        boolean yes = g.endsWith("1");
        if (g.matches("1[01]\\d\\d\\d")) {
            return shoot(sss, g.charAt(1) == '1') > 0;
        } else if (g.matches("2000[01]")) {
            return (yes ? newSound() : newCamera()) > 0;
        } else if (g.matches("3\\d\\d0[01]")) {
            return falseStart(a, yes) >= 0;
        } else if (g.matches("4\\d\\d\\d\\d")) {
            return call(a, b) > 0;
        } else if (g.equals("50000")) {
            return right() > 0;
        } else if (g.matches("6\\d\\d0[01]")) {
            exists(a);
            return now.isRight(a) == yes;
        } else if (g.matches("700\\d\\d")) {
            return now.wrong() <= b;
        } else if (g.matches("8\\d\\d\\d\\d")) {
            exists(b);
            return synced(a) == b;
        }
        return g.matches("90\\d\\d\\d") && now.left() >= sss;
    }

    int simulate(long seed, int m) {
        argument(m >= 1 && m <= 80);
        Model copy = new Model();
        copy.now = now.copy();
        long x = seed;
        for (int k = 0; k < m; k++) {
            x = x * 6364136223846793005L + 1442695040888963407L;
            int r = (int) (x >>> 33);
            try {
                copy.turn(r);
            } catch (IllegalStateException | IndexOutOfBoundsException e) {
                continue;
            }
        }
        return 1000 * copy.now.wrong() + copy.now.unlike();
    }

    private int turn(int r) {
        switch (r % 16) {
            case 0: return call(1 + r / 16 % 4, r / 64 % 3);
            case 1: return right();
            case 2: return board(1 + r / 16 % 4, r / 64 % 3, 1 + r / 256 % 5);
            case 3: return newCamera();
            case 4: return newSound();
            case 5: return falseStart(r / 16 % 24, true);
            case 6: return circle(r / 16 % 24, true);
            case 7: return off(r / 16 % 199 - 99);
            case 8: return fix(r / 16 % 24);
            default: return shoot(1 + r / 32 % 120, r / 16 % 2 == 0);
        }
    }

    int save(int slot) {
        if (slot < 0 || slot > 1) {
            throw new IndexOutOfBoundsException();
        }
        slots[slot] = now.copy();
        return now.takes.size();
    }

    int restore(int slot) {
        if (slot < 0 || slot > 1) {
            throw new IndexOutOfBoundsException();
        }
        state(slots[slot] != null);
        now = slots[slot].copy();
        past.clear();
        return now.takes.size();
    }

    /** The same text as Check.everything, without the error position. */
    String everything() {
        State s = now;
        int circled = (int) s.takes.stream().filter(t -> t.circled).count();
        int seconds = s.takes.stream().filter(t -> t.circled).mapToInt(t -> t.length).sum();
        int isFalse = (int) s.takes.stream().filter(t -> t.isFalse).count();
        StringBuilder all = new StringBuilder("about");
        for (int v : new int[] {s.takes.size(), sceneOf(s.meant), letterOf(s.meant), sceneOf(s.said), letterOf(s.said),
            s.saidTake, s.camera, s.cameraUsed, s.roll, s.rollUsed, s.time, s.off, s.wrong(), circled, seconds, isFalse,
            s.unlike()}) {
            all.append(' ').append(v);
        }
        all.append(" settings");
        for (int v : s.settings) {
            all.append(' ').append(v);
        }
        for (int i = 0; i < s.takes.size(); i++) {
            Take t = s.takes.get(i);
            all.append('\n').append(t.said).append('/').append(t.saidTake).append(t.circled ? "*" : "")
                    .append(s.isRight(i) ? "" : "?").append(t.isFalse ? "x" : "")
                    .append(" c").append(t.camera).append(':').append(t.cameraFrom)
                    .append(t.sound ? " s" + t.roll + ":" + t.file : "").append(" |");
            for (int v : new int[] {sceneOf(t.meant), letterOf(t.meant), s.rightNumber(i), sceneOf(t.said),
                letterOf(t.said), t.saidTake, t.camera, t.cameraFrom, t.length, t.sound ? t.roll : -1,
                t.sound ? t.rollFrom : -1, t.sound ? t.file : -1, t.time, t.stamp, t.circled ? 1 : 0,
                t.isFalse ? 1 : 0, s.isRight(i) ? 1 : 0}) {
                all.append(' ').append(v);
            }
        }
        return all.toString();
    }
}
