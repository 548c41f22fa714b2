/** Promises 22 to 31: finding, and what would be. */
public final class FindingTest {
    public static void main(String[] args) {
        bySlate();
        byPlace();
        syncing();
        shifts();
        rollsToCome();
        otherFalseStarts();
        scenes();
        Check.end("FindingTest");
    }

    private static void bySlate() {
        // Meant 1A, 1A, 1A, 2B; said 1A/1, 1A/1, 1A/2, 1A/2; the second one is a false start.
        TakeLog log = Check.loaded("Tt010b01A01t010t010c02Bb01A02t010f01");
        Check.due("said", log.find(1, 0, 1, true), 0);
        Check.due("said", log.find(1, 0, 2, true), 2);
        Check.due("said", log.find(1, 0, 3, true), -1);
        Check.due("said", log.find(2, 1, 1, true), -1);
        Check.due("meant", log.find(1, 0, 1, false), 0);
        Check.due("meant, no false start", log.find(1, 0, 2, false), 2);
        Check.due("meant", log.find(1, 0, 3, false), -1);
        Check.due("meant", log.find(2, 1, 1, false), 3);
        Check.due("meant", log.find(2, 0, 1, false), -1);
        Check.due("meant", log.find(1, 1, 1, false), -1);
        log.falseStart(0, true);
        Check.due("said, also by a false start", log.find(1, 0, 1, true), 0);
        Check.due("meant", log.find(1, 0, 1, false), 2);
        log.falseStart(2, true);
        Check.due("only false starts", log.find(1, 0, 1, false), -1);
        Check.due("any number", log.find(Integer.MIN_VALUE, Integer.MAX_VALUE, -1, true), -1);
        Check.due("any number", log.find(Integer.MAX_VALUE, Integer.MIN_VALUE, 0, false), -1);
    }

    private static void byPlace() {
        TakeLog log = Check.loaded("Tt010m020t030nst040v00m010");
        int[][] camera = {{1, -1, -1}, {1, 0, 0}, {1, 9, 0}, {1, 10, 1}, {1, 29, 1}, {1, 30, 2}, {1, 59, 2}, {1, 60, -1},
            {2, 0, 3}, {2, 39, 3}, {2, 40, 4}, {2, 49, 4}, {2, 50, -1}, {3, 0, -1}, {0, 0, -1}, {-1, -1, -1},
            {1, Integer.MIN_VALUE, -1}, {2, Integer.MAX_VALUE, -1}};
        for (int[] row : camera) {
            Check.due("atCamera " + row[0] + " " + row[1], log.atCamera(row[0], row[1]), row[2]);
        }
        int[][] sound = {{1, -1, -1}, {1, 0, 0}, {1, 9, 0}, {1, 10, 2}, {1, 39, 2}, {1, 40, -1}, {2, 0, 3}, {2, 39, 3},
            {2, 40, -1}, {3, 0, -1}, {-1, -1, -1}, {-1, 0, -1}, {-1, 18, -1}, {1, Integer.MIN_VALUE, -1},
            {1, Integer.MAX_VALUE, -1}};
        for (int[] row : sound) {
            Check.due("atSound " + row[0] + " " + row[1], log.atSound(row[0], row[1]), row[2]);
        }
        int[][] time = {{-1, -1}, {0, 0}, {9, 0}, {10, -1}, {19, -1}, {20, 1}, {39, 1}, {40, -1}, {50, 2}, {79, 2},
            {80, -1}, {90, 3}, {129, 3}, {130, -1}, {140, 4}, {149, 4}, {150, -1}, {160, -1},
            {Integer.MIN_VALUE, -1}, {Integer.MAX_VALUE, -1}};
        for (int[] row : time) {
            Check.due("atTime " + row[0], log.atTime(row[0]), row[1]);
        }
        int[][] file = {{1, 0, -1}, {1, 1, 0}, {1, 2, 2}, {1, 3, -1}, {2, 1, 3}, {2, 2, -1}, {3, 1, -1}, {-1, -1, -1},
            {1, -1, -1}, {Integer.MAX_VALUE, Integer.MIN_VALUE, -1}};
        for (int[] row : file) {
            Check.due("byFile " + row[0] + " " + row[1], log.byFile(row[0], row[1]), row[2]);
        }
    }

    private static void syncing() {
        // Times 0, 30, 60, 90, each for 20 s.
        TakeLog log = Check.loaded("Tt020m020v80t020v30t020");
        Check.due("its own", log.synced(0), 0);
        Check.due("none, since it has none", log.synced(1), -1);
        Check.due("the sound at 70 of the fourth and the one at 90 of the third", log.synced(2), 3);
        Check.due("the sound of another", log.synced(3), 2);
        Check.due("unlike sounds", log.about(16), 2);
        TakeLog even = Check.loaded("Tt020v25t020v50m020");
        // The sounds are at 0 to 20 and at 5 to 25.
        Check.due("the greatest", even.synced(0), 0);
        Check.due("none at 30", even.synced(1), -1);
        Check.due("just one second", Check.loaded("Tm020v39t020").synced(0), 1);
        Check.due("no second", Check.loaded("Tm020v40t020").synced(0), -1);
        Check.due("its own, in part", Check.loaded("Tm020v40t020").synced(1), 1);
        Check.due("its own, not at all", Check.loaded("Tm020v30t020").synced(1), -1);
        TakeLog ahead = Check.loaded("Tm020");
        ahead.off(-11);
        ahead.shoot(20, true);
        Check.due("the last second", ahead.synced(0), 1);
        TakeLog behind = Check.loaded("Tm020");
        behind.off(-10);
        behind.shoot(20, true);
        Check.due("none from the end on", behind.synced(0), -1);
        // Both sounds lie in the first take for 10 s: at -10 to 10, and at 10 to 30.
        TakeLog tie = Check.loaded("Tm020");
        tie.off(-40);
        tie.shoot(20, true);
        tie.off(-50);
        tie.shoot(20, true);
        Check.due("the lowest of two", tie.synced(0), 1);
        for (int bad : new int[] {-1, 3, 24, Integer.MIN_VALUE, Integer.MAX_VALUE}) {
            Check.refuses(tie, IndexOutOfBoundsException.class, "synced " + bad, () -> tie.synced(bad));
            Check.refuses(tie, IndexOutOfBoundsException.class, "ifFalse " + bad, () -> tie.ifFalse(bad));
        }
    }

    private static int shiftOf(int off, int seconds, int takes) {
        TakeLog log = new TakeLog();
        log.set(2, 60);
        log.off(off);
        for (int k = 0; k < takes; k++) {
            log.shoot(seconds, true);
        }
        return log.bestShift();
    }

    private static void shifts() {
        Check.due("no takes", new TakeLog().bestShift(), 0);
        Check.due("no sound", Check.loaded("Tm020m020").bestShift(), 0);
        Check.due("all right", shiftOf(0, 10, 3), 0);
        Check.due("still right", shiftOf(9, 10, 1), 0);
        Check.due("one less", shiftOf(10, 10, 1), -1);
        Check.due("one more", shiftOf(-10, 10, 1), 1);
        Check.due("ninety less", shiftOf(99, 10, 1), -90);
        Check.due("ninety more", shiftOf(-99, 10, 1), 90);
        Check.due("the farthest", shiftOf(99, 1, 1), -99);
        Check.due("the farthest", shiftOf(-99, 1, 1), 99);
        for (int off = 10; off <= 99; off++) {
            Check.due("just so far that one second is its own", shiftOf(off, 10, 1), 9 - off);
            Check.due("just so far that one second is its own", shiftOf(-off, 10, 1), off - 9);
        }
        // One is 15 s late, the other 15 s early: both shifts by 6 keep one.
        TakeLog two = new TakeLog();
        two.set(2, 60);
        two.off(15);
        two.shoot(10, true);
        two.off(-15);
        two.shoot(10, true);
        Check.due("the lower one of two", two.bestShift(), -6);
        two.off(-14);
        two.shoot(10, true);
        Check.due("most takes", two.bestShift(), 6);
        TakeLog near = new TakeLog();
        near.set(2, 60);
        near.off(15);
        near.shoot(10, true);
        near.off(-14);
        near.shoot(10, true);
        Check.due("the nearest to 0", near.bestShift(), 5);
    }

    private static void rollsToCome() {
        TakeLog log = new TakeLog();
        Check.due("three fit", log.rolls(100, 3), 0);
        Check.due("the fourth not", log.rolls(100, 4), 1);
        Check.due("seven", log.rolls(100, 7), 2);
        Check.due("just two of 120 fit", log.rolls(120, 3), 1);
        Check.due("short ones", log.rolls(1, 99), 0);
        Check.due("the most", log.rolls(120, 99), 49);
        log.shoot(100, true);
        Check.due("behind a take", log.rolls(100, 2), 0);
        Check.due("behind a take", log.rolls(101, 2), 1);
        log.set(0, 60);
        Check.due("a roll that is used further", log.rolls(1, 1), 1);
        Check.due("a roll that is used further", log.rolls(60, 2), 2);
        log.newCamera();
        Check.due("a whole roll", log.rolls(60, 1), 0);
        Check.due("more than a whole roll", log.rolls(61, 1), 1);
        Check.due("more than a whole roll", log.rolls(61, 99), 99);
        for (int bad : new int[] {0, -1, 121, Integer.MIN_VALUE, Integer.MAX_VALUE}) {
            Check.refuses(log, IllegalArgumentException.class, "rolls seconds " + bad, () -> log.rolls(bad, 1));
        }
        for (int bad : new int[] {0, -1, 100, Integer.MIN_VALUE, Integer.MAX_VALUE}) {
            Check.refuses(log, IllegalArgumentException.class, "rolls takes " + bad, () -> log.rolls(1, bad));
        }
    }

    private static void otherFalseStarts() {
        // 1A/1, 1A/2, 2B/1, 1A/3, and 1A/3 meant as 1A/4.
        TakeLog log = Check.loaded("Tt010t010c02Brt010c01Art010b01A03t010");
        Check.due("all later ones of the setup", log.ifFalse(0), 2 + 8 + 16);
        Check.due("wrong ones get right", log.ifFalse(1), 8 + 16);
        Check.due("another setup", log.ifFalse(2), 0);
        Check.due("the next one", log.ifFalse(3), 16);
        Check.due("the last one", log.ifFalse(4), 0);
        String before = Check.everything(log);
        log.ifFalse(0);
        Check.due("nothing changes", Check.everything(log), before);
        log.falseStart(0, true);
        Check.due("if it was none", log.ifFalse(0), 2 + 8 + 16);
        Check.due("if two were", log.ifFalse(1), 16);
    }

    private static void scenes() {
        TakeLog log = Check.loaded("Tc03At010t020c03Zt030c03Bt040c04Bt050o00o02o04f03");
        int[][] rows = {{3, 4, 2, 3, 100, 1}, {4, 1, 1, 1, 50, 0}, {1, 0, 0, 0, 0, 0}, {-1, 0, 0, 0, 0, 0},
            {Integer.MIN_VALUE, 0, 0, 0, 0, 0}, {Integer.MAX_VALUE, 0, 0, 0, 0, 0}};
        for (int[] row : rows) {
            for (int what = 0; what <= 4; what++) {
                Check.due("scene " + row[0] + " " + what, log.scene(row[0], what), row[what + 1]);
            }
        }
        log.circle(3, true);
        Check.due("all letters are circled", log.scene(3, 4), 0);
        log.circle(0, false);
        Check.due("the letter A is not circled", log.scene(3, 4), 1);
        for (int bad : new int[] {-1, 5, Integer.MIN_VALUE, Integer.MAX_VALUE}) {
            Check.refuses(log, IllegalArgumentException.class, "scene what " + bad, () -> log.scene(3, bad));
        }
    }
}
