/** SYNCING and promises 22 to 31: the sentences that name a border. */
public final class FindEdgesTest {
    private static final int LOW = Integer.MIN_VALUE;
    private static final int HIGH = Integer.MAX_VALUE;
    private static final int[] FAR = {LOW, LOW + 1, -65536, -256, -2, -1, 0, 1, 2, 3, 4, 5, 256, 65536, HIGH - 1, HIGH};

    public static void main(String[] args) {
        noTakes();
        slatesOffByOne();
        lowestOfSeveral();
        everyPlace();
        rollsWithOtherNumbers();
        pauses();
        overlaps();
        greatestAndLowest();
        unlikeLengths();
        bestShifts();
        ownOfMost();
        shiftsOfAModel();
        rollsToCome();
        rollsAtTheEnds();
        falseStarts();
        scenes();
        Check.end("FindEdgesTest");
    }

    /** "NONE if there is none": no take at all. */
    private static void noTakes() {
        TakeLog log = new TakeLog();
        for (int a : FAR) {
            for (int b : FAR) {
                Check.due("find said", log.find(1, a, b, true) + log.find(a, 0, b, true) + log.find(a, b, 1, true), -3);
                Check.due("find meant", log.find(1, a, b, false) + log.find(a, 0, b, false), -2);
                Check.due("atCamera", log.atCamera(a, b), -1);
                Check.due("atSound", log.atSound(a, b), -1);
                Check.due("byFile", log.byFile(a, b), -1);
            }
            Check.due("atTime", log.atTime(a), -1);
            for (int what = 0; what <= 4; what++) {
                Check.due("scene", log.scene(a, what), 0);
            }
        }
        Check.due("bestShift", log.bestShift(), 0);
        for (int i : FAR) {
            Check.due("synced", Check.outcome(() -> log.synced(i)), "throws.IndexOutOfBoundsException");
            Check.due("ifFalse", Check.outcome(() -> log.ifFalse(i)), "throws.IndexOutOfBoundsException");
        }
    }

    /** find: all three numbers count, as the board said them or as they were meant. */
    private static void slatesOffByOne() {
        // Meant 50M as the second take of it, said 40J/7.
        TakeLog log = Check.loaded("Tc50Mb01A99t001b40J07t001");
        for (int scene : new int[] {LOW, -1, 0, 39, 40, 41, 49, 50, 51, 99, 100, 296, 306, HIGH}) {
            for (int letter : new int[] {LOW, -1, 0, 8, 9, 10, 11, 12, 13, 25, 26, HIGH}) {
                for (int take : new int[] {LOW, -1, 0, 1, 2, 3, 6, 7, 8, 24, 99, HIGH}) {
                    Check.due("said " + scene + " " + letter + " " + take, log.find(scene, letter, take, true),
                            scene == 40 && letter == 9 && take == 7 ? 1 : -1);
                    Check.due("meant " + scene + " " + letter + " " + take, log.find(scene, letter, take, false),
                            scene == 50 && letter == 12 && (take == 1 || take == 2) ? take - 1 : -1);
                }
            }
        }
        // Corners of the ranges.
        for (int scene : new int[] {1, 99}) {
            for (int letter : new int[] {0, 25}) {
                for (int take : new int[] {1, 99}) {
                    TakeLog corner = new TakeLog();
                    corner.call(scene, letter);
                    corner.board(scene, letter, take);
                    corner.shoot(1, false);
                    Check.due("said", corner.find(scene, letter, take, true), 0);
                    Check.due("meant", corner.find(scene, letter, 1, false), 0);
                    Check.due("not meant", corner.find(scene, letter, 99, false), -1);
                }
            }
        }
    }

    /** "Returns the lowest such take"; false starts are found by what was said, not by what was meant. */
    private static void lowestOfSeveral() {
        TakeLog log = Check.loaded("Tb02B03" + "t001b02B03".repeat(11));
        Check.due("11 that said so", log.find(2, 1, 3, true), 0);
        log.fix(0);
        Check.due("10 that said so", log.find(2, 1, 3, true), 1);
        log.falseStart(1, true);
        Check.due("also a false start", log.find(2, 1, 3, true), 1);
        TakeLog meant = Check.loaded("T" + "t001".repeat(24));
        for (int i = 0; i < 24; i++) {
            Check.due("meant " + i, meant.find(1, 0, i + 1, false), i);
        }
        Check.due("the 25th", meant.find(1, 0, 25, false), -1);
        for (int i = 0; i < 23; i++) {
            meant.falseStart(i, true);
            Check.due("the first that is no false start", meant.find(1, 0, 1, false), i + 1);
            Check.due("one less", meant.find(1, 0, 24 - i, false), -1);
            Check.due("the last", meant.find(1, 0, 23 - i, false), 23);
        }
        meant.falseStart(23, true);
        Check.due("false starts alone", meant.find(1, 0, 1, false), -1);
    }

    /** Every second of every roll, and every time: "from that of the take up to the one ahead of its end". */
    private static void everyPlace() {
        TakeLog log = new TakeLog();
        log.set(1, 200);
        int[] seconds = {1, 120, 2, 119, 60, 60, 1, 1, 1, 90, 120, 120, 5, 7, 11, 13, 17, 19, 23, 29, 31, 37, 41, 43};
        for (int k = 0; k < 24; k++) {
            log.off(k % 2 == 0 ? 30 : -30);
            log.set(2, k % 3);
            if (k % 4 == 3) {
                log.newCamera();
            }
            if (k % 3 == 2) {
                log.newSound();
            }
            log.shoot(seconds[k], k % 4 != 1);
        }
        for (int roll = -2; roll <= 12; roll++) {
            for (int second = -3; second <= 305; second++) {
                Check.due("atCamera(" + roll + ", " + second + ")", log.atCamera(roll, second), in(log, 6, roll, second));
                Check.due("atSound(" + roll + ", " + second + ")", log.atSound(roll, second), in(log, 9, roll, second));
            }
            for (int file = -2; file <= 25; file++) {
                int want = -1;
                for (int i = 23; i >= 0; i--) {
                    want = log.take(i, 9) == roll && log.take(i, 11) == file && file > 0 ? i : want;
                }
                Check.due("byFile(" + roll + ", " + file + ")", log.byFile(roll, file), want);
            }
        }
        for (int time = -3; time <= log.about(10) + 3; time++) {
            int want = -1;
            for (int i = 23; i >= 0; i--) {
                want = time >= log.take(i, 12) && time < log.take(i, 12) + log.take(i, 8) ? i : want;
            }
            Check.due("atTime(" + time + ")", log.atTime(time), want);
        }
        for (int far : FAR) {
            if (far < 0 || far > 12) {
                Check.due("a roll far off", log.atCamera(far, 0) + log.atSound(far, 0) + log.byFile(far, 1), -3);
            }
            if (far < 0 || far > 3600) {
                Check.due("a second far off", log.atCamera(1, far) + log.atSound(1, far) + log.atTime(far), -3);
                Check.due("a file far off", log.byFile(1, far), -1);
            }
        }
    }

    /** The take that lies at a second of a roll, by what take tells of the roll and, behind it, of the second. */
    private static int in(TakeLog log, int rollAt, int roll, int second) {
        for (int i = 0; i < 24; i++) {
            int from = log.take(i, rollAt + 1);
            if (log.take(i, rollAt) == roll && from >= 0 && second >= from && second < from + log.take(i, 8)) {
                return i;
            }
        }
        return -1;
    }

    /** A camera roll and a sound roll have numbers of their own; a take without sound is on no sound roll. */
    private static void rollsWithOtherNumbers() {
        TakeLog log = Check.loaded("Tnnst010m020t030");
        int[][] sound = {{2, -1, -1}, {2, 0, 0}, {2, 9, 0}, {2, 10, 2}, {2, 39, 2}, {2, 40, -1}, {3, 0, -1}, {1, 0, -1},
            {-1, -1, -1}, {-1, 0, -1}, {0, 0, -1}};
        for (int[] row : sound) {
            Check.due("atSound " + row[0] + " " + row[1], log.atSound(row[0], row[1]), row[2]);
        }
        int[][] camera = {{3, -1, -1}, {3, 0, 0}, {3, 9, 0}, {3, 10, 1}, {3, 29, 1}, {3, 30, 2}, {3, 59, 2}, {3, 60, -1},
            {2, 0, -1}, {4, 0, -1}};
        for (int[] row : camera) {
            Check.due("atCamera " + row[0] + " " + row[1], log.atCamera(row[0], row[1]), row[2]);
        }
        int[][] file = {{2, 0, -1}, {2, 1, 0}, {2, 2, 2}, {2, 3, -1}, {3, 1, -1}, {-1, -1, -1}, {2, -1, -1}};
        for (int[] row : file) {
            Check.due("byFile " + row[0] + " " + row[1], log.byFile(row[0], row[1]), row[2]);
        }
    }

    /** atTime: no take in the pauses, and no second between two takes without one. */
    private static void pauses() {
        TakeLog log = new TakeLog();
        log.set(2, 0);
        log.shoot(1, false);
        log.set(2, 1);
        log.shoot(1, false);
        log.set(2, 60);
        log.shoot(1, false);
        log.shoot(120, false);
        int[][] rows = {{-1, -1}, {0, 0}, {1, 1}, {2, -1}, {3, 2}, {4, -1}, {63, -1}, {64, 3}, {183, 3}, {184, -1},
            {244, -1}};
        for (int[] row : rows) {
            Check.due("atTime " + row[0], log.atTime(row[0]), row[1]);
        }
        log.off(99);
        Check.due("by the clock of the camera", log.atTime(0), 0);
    }

    /** A silent take of a length, and one with sound of another, whose sound begins so many seconds behind its time. */
    private static TakeLog pair(int silent, int sound, int begin) {
        TakeLog log = new TakeLog();
        log.set(2, 0);
        log.off(begin - silent);
        log.shoot(silent, false);
        log.shoot(sound, true);
        return log;
    }

    /** "how many seconds there are in both": just touching is none, one second is enough. */
    private static void overlaps() {
        for (int silent : new int[] {1, 2, 30, 90}) {
            for (int sound : new int[] {1, 2, 30, 120}) {
                for (int begin = Math.max(-99 + silent, -sound - 2); begin <= silent + 2; begin++) {
                    TakeLog log = pair(silent, sound, begin);
                    boolean both = begin < silent && begin + sound > 0;
                    Check.due("synced of " + silent + " and " + sound + " at " + begin, log.synced(0), both ? 1 : -1);
                    boolean own = begin < silent + sound && begin + sound > silent;
                    Check.due("its own", log.synced(1), own ? 1 : -1);
                    Check.due("about(16)", log.about(16), (both ? 1 : 0) + (own ? 0 : 1));
                }
            }
        }
    }

    /** Times 0, 40 and so on, each for 40 s without pauses; the stamps of the takes with sound. */
    private static TakeLog withStamps(int... stamps) {
        TakeLog log = new TakeLog();
        log.set(2, 0);
        for (int k = 0; k < stamps.length; k++) {
            log.off(stamps[k] - 40 * k);
            log.shoot(40, true);
        }
        return log;
    }

    /** "that of the take with the greatest overlap with it, if that is above 0; of several the lowest" */
    private static void greatestAndLowest() {
        Check.due("the first is greater", withStamps(10, 11, 12).synced(0), 0);
        Check.due("the second is greater", withStamps(11, 10, 12).synced(0), 1);
        Check.due("the third is greater", withStamps(12, 11, 10).synced(0), 2);
        Check.due("all the same", withStamps(10, 10, 10).synced(0), 0);
        Check.due("two the same", withStamps(11, 10, 10).synced(0), 1);
        Check.due("the same ahead and behind", withStamps(20, -10, 10).synced(0), 1);
        Check.due("the same ahead and behind", withStamps(20, 10, -10).synced(0), 1);
        Check.due("one second more", withStamps(20, 10, -9).synced(0), 2);
        Check.due("just at its end", withStamps(40, 40, 40).synced(0), -1);
        Check.due("one second each", withStamps(40, 39, 39).synced(0), 1);
        Check.due("another take's own is as great", withStamps(0, 0).synced(0), 0);
        Check.due("a lower one as great as its own", withStamps(40, 40).synced(1), 0);
        Check.due("about(16)", withStamps(40, 40).about(16), 2);
        TakeLog silent = Check.loaded("Tm040v00t040");
        Check.due("a sound that begins with it", silent.synced(0), 1);
        silent.circle(0, true);
        silent.falseStart(1, true);
        Check.due("marks change nothing", silent.synced(0), 1);
    }

    /** Lengths that are not the same: a long sound round a short take, and a short sound in a long take. */
    private static void unlikeLengths() {
        TakeLog log = new TakeLog();
        log.set(2, 0);
        log.off(9);
        log.shoot(10, true);
        log.off(-20);
        log.shoot(30, true);
        // Sounds at 9 to 19 and at -10 to 20.
        Check.due("wholly in a longer sound", log.synced(0), 1);
        Check.due("10 s of it", log.synced(1), 1);
        TakeLog other = new TakeLog();
        other.set(2, 0);
        other.off(90);
        other.shoot(100, true);
        other.off(-60);
        other.shoot(11, true);
        // Sounds at 90 to 190 and at 40 to 51.
        Check.due("a short sound in a long take", other.synced(0), 1);
        other.undo();
        other.shoot(10, true);
        Check.due("as short as its own is left", other.synced(0), 0);
    }

    private static TakeLog late(int... offs) {
        TakeLog log = new TakeLog();
        log.set(2, 60);
        for (int off : offs) {
            log.off(off);
            log.shoot(10, true);
        }
        return log;
    }

    /** bestShift: "-99 to 99", "of several the one that is nearest to 0, of two such ones the lower one". */
    private static void bestShifts() {
        for (int off = -99; off <= 99; off++) {
            int want = off > 9 ? 9 - off : off < -9 ? -9 - off : 0;
            Check.due("one take that is off by " + off, late(off).bestShift(), want);
            TakeLog second = new TakeLog();
            second.off(off);
            second.shoot(1, true);
            Check.due("one second that is off by " + off, second.bestShift(), -off);
            TakeLog silent = new TakeLog();
            silent.off(off);
            silent.shoot(10, false);
            Check.due("no sound at all", silent.bestShift(), 0);
        }
        // Not more than 25, so that each take's sound is far from the other takes.
        for (int off = 10; off <= 25; off++) {
            Check.due("two, the lower one", late(off, -off).bestShift(), 9 - off);
            Check.due("two, the lower one", late(-off, off).bestShift(), 9 - off);
            Check.due("two, the nearer one above", late(off + 1, -off).bestShift(), off - 9);
            Check.due("two, the nearer one below", late(off, -off - 1).bestShift(), 9 - off);
            Check.due("most, though it is farther", late(off, -off - 1, -off - 1).bestShift(), off - 8);
            Check.due("most, though it is farther", late(off + 1, off + 1, -off).bestShift(), 8 - off);
            Check.due("two, where both ranges end", late(off, off + 18).bestShift(), -off - 9);
        }
        TakeLog even = late(99, -99);
        Check.due("the ends, the lower one", even.bestShift(), -90);
        even.shoot(10, true);
        Check.due("the ends, the higher one", even.bestShift(), 90);
    }

    /** Takes that have sound count alone, and only if they get their own. */
    private static void ownOfMost() {
        TakeLog log = new TakeLog();
        log.set(2, 0);
        log.off(30);
        log.shoot(20, true);
        log.shoot(20, false);
        log.shoot(20, false);
        log.shoot(20, false);
        Check.due("other takes get it, but they have none", log.bestShift(), -11);
        TakeLog other = new TakeLog();
        other.set(2, 0);
        other.off(-1);
        for (int k = 0; k < 24; k++) {
            other.shoot(1, true);
        }
        Check.due("each another's, up to a shift of 1", other.bestShift(), 1);
        other.undo();
        Check.due("so it is with 23", other.bestShift(), 1);
        TakeLog tied = withStamps(-20, 20);
        Check.due("a tie that gives the first one its own", tied.synced(0), 0);
        Check.due("the second has its own", tied.synced(1), 1);
        Check.due("so no shift is better", tied.bestShift(), 0);
    }

    /** Sounds that meet their own takes, but others more: counted second by second, too. */
    private static void shiftsOfAModel() {
        Check.due("each has some of its own, but more of the other's", withStamps(30, 10).bestShift(), -20);
        for (int a = -90; a <= 90; a += 9) {
            for (int b = -50; b <= 130; b += 11) {
                int[] stamps = {a, b, 80 + (a - b) / 4};
                Model model = new Model();
                model.set(2, 0);
                for (int k = 0; k < stamps.length; k++) {
                    model.off(stamps[k] - 40 * k);
                    model.shoot(40, true);
                }
                Check.due("stamps " + a + " " + b + " " + stamps[2], withStamps(stamps).bestShift(), model.bestShift());
            }
        }
    }

    /** rolls: "if one is loaded ahead of each take for which less than so many seconds are left". */
    private static void rollsToCome() {
        for (int roll : new int[] {60, 61, 119, 120, 121, 300, 999}) {
            for (int used = 0; used <= 62; used += used == 0 ? 57 : 1) {
                for (int seconds : new int[] {1, 2, 59, 60, 61, 119, 120}) {
                    TakeLog log = new TakeLog();
                    if (used > 0) {
                        log.shoot(used, false);
                    }
                    log.set(0, roll);
                    int left = Math.max(0, roll - used);
                    int loaded = 0;
                    for (int n = 1; n <= 99; n++) {
                        if (left < seconds) {
                            loaded++;
                            left = roll;
                        }
                        left = Math.max(0, left - seconds);
                        Check.due("rolls(" + seconds + ", " + n + "), " + used + " of " + roll, log.rolls(seconds, n),
                                loaded);
                    }
                }
            }
        }
    }

    private static void rollsAtTheEnds() {
        TakeLog log = new TakeLog();
        log.set(0, 60);
        Check.due("just a whole roll", log.rolls(60, 1), 0);
        Check.due("also if nothing of the roll is used", log.rolls(61, 1), 1);
        Check.due("each uses all of a roll up", log.rolls(61, 99), 99);
        Check.due("each uses all of a roll up", log.rolls(120, 99), 99);
        Check.due("the next one", log.rolls(60, 2), 1);
        Check.due("the most", log.rolls(60, 99), 98);
        Check.due("sixty of a second", log.rolls(1, 60), 0);
        Check.due("one more", log.rolls(1, 61), 1);
        log.set(0, 999);
        Check.due("eight fit", log.rolls(120, 8), 0);
        Check.due("the ninth not", log.rolls(120, 9), 1);
        Check.due("the most of the longest", log.rolls(120, 99), 12);
        for (int k = 0; k < 24; k++) {
            log.shoot(1, false);
        }
        Check.due("24 takes are no border", log.rolls(120, 9), 1);
        Check.due("975 are left", log.rolls(75, 13), 0);
        Check.due("975 are left", log.rolls(75, 14), 1);
        log.set(1, 60);
        Check.due("sound rolls do not count", log.rolls(75, 13), 0);
    }

    /** ifFalse: bits 0 to 23, of later takes of the same setup alone, both ways. */
    private static void falseStarts() {
        TakeLog log = Check.loaded("T" + "t001".repeat(24));
        for (int i = 0; i < 24; i++) {
            int later = (1 << 24) - (2 << i);
            Check.due("all later ones get wrong", log.ifFalse(i), later);
            log.falseStart(i, true);
            Check.due("all later ones get right", log.ifFalse(i), later);
            log.falseStart(i, false);
        }
        // Said 1, 1, 2, 3 ..: all but the first are wrong, and right if the first one is a false start.
        TakeLog wrong = Check.loaded("Tt001b01A01" + "t001".repeat(23));
        Check.due("23 wrong", wrong.about(12), 23);
        Check.due("all later ones get right", wrong.ifFalse(0), (1 << 24) - 2);
        Check.due("all behind it get right", wrong.ifFalse(1), (1 << 24) - 4);
        wrong.falseStart(0, true);
        Check.due("right ones get wrong", wrong.ifFalse(0), (1 << 24) - 2);
        Check.due("right ones get wrong", wrong.ifFalse(1), (1 << 24) - 4);
        Check.due("the last one", wrong.ifFalse(23), 0);
        Check.due("the last but one", wrong.ifFalse(22), 1 << 23);
        String before = Check.state(wrong);
        wrong.ifFalse(5);
        Check.due("nothing becomes different", Check.state(wrong), before);
        TakeLog far = Check.loaded("Tb01A50" + "t001".repeat(24));
        for (int i = 0; i < 24; i++) {
            Check.due("wrong ones stay wrong", far.ifFalse(i), 0);
        }
        // Meant 1A, 1B, 2A, 1A: just the last one is of the setup of the first one.
        TakeLog mixed = Check.loaded("Trt001c01Brt001c02Art001c01Art001");
        int[] sets = {8, 0, 0, 0};
        for (int i = 0; i < 4; i++) {
            Check.due("of the same setup " + i, mixed.ifFalse(i), sets[i]);
        }
        Check.due("one take alone", Check.loaded("Tt001").ifFalse(0), 0);
    }

    /** scene: all 26 letters can't be, 24 can; "by what was meant"; "its letters of which no take is circled". */
    private static void scenes() {
        for (int scene : new int[] {1, 99}) {
            TakeLog log = new TakeLog();
            log.set(0, 999);
            log.board(50, 0, 1);
            for (int k = 0; k < 24; k++) {
                log.call(scene, k + 2);
                log.shoot(k + 1, false);
            }
            five(log, scene, 24, 0, 24, 300, 24);
            for (int k = 0; k < 24; k++) {
                log.circle(23 - k, true);
                five(log, scene, 24, k + 1, 24, 300, 23 - k);
            }
            for (int other : new int[] {LOW, -1, 0, 2, 50, 98, 100, HIGH}) {
                five(log, other, 0, 0, 0, 0, 0);
            }
        }
        // Meant 7A, 7A, 7Z, 7Z, 8A.
        TakeLog log = Check.loaded("Tc07At010t020c07Zt030t040c08At050");
        five(log, 7, 4, 0, 2, 100, 2);
        log.circle(0, true);
        five(log, 7, 4, 1, 2, 100, 1);
        log.circle(1, true);
        five(log, 7, 4, 2, 2, 100, 1);
        log.circle(3, true);
        five(log, 7, 4, 3, 2, 100, 0);
        log.circle(0, false);
        five(log, 7, 4, 2, 2, 100, 0);
        log.circle(1, false);
        five(log, 7, 4, 1, 2, 100, 1);
        five(log, 8, 1, 0, 1, 50, 1);
        five(log, 6, 0, 0, 0, 0, 0);
        log.falseStart(3, true);
        five(log, 7, 4, 1, 2, 100, 1);
    }

    private static void five(TakeLog log, int scene, int... want) {
        for (int what = 0; what <= 4; what++) {
            Check.due("scene(" + scene + ", " + what + ")", log.scene(scene, what), want[what]);
        }
    }
}
