/** The turns of a simulation, as the document tells them, done with the methods of the face. */
final class Turns {
    private static final long FACTOR = 6364136223846793005L;

    private Turns() {
    }

    static long next(long x) {
        return x * FACTOR + 1442695040888963407L;
    }

    /** The seed with which the first turn has this r; the low bits are those that r does not show. */
    static long seedFor(int r, long low) {
        long inverse = 1;
        for (int k = 0; k < 7; k++) {
            inverse *= 2 - FACTOR * inverse;
        }
        return (((long) r << 33) + low - next(0)) * inverse;
    }

    /** Does m turns, and answers how many of them threw nothing. */
    static int onto(TakeLog log, long seed, int m) {
        int done = 0;
        long x = seed;
        for (int k = 0; k < m; k++) {
            x = next(x);
            done += Check.outcome(turn(log, (int) (x >>> 33))).startsWith("throws") ? 0 : 1;
        }
        return done;
    }

    private static Check.Call turn(TakeLog log, int r) {
        switch (r % 16) {
            case 0: return () -> log.call(1 + r / 16 % 4, r / 64 % 3);
            case 1: return log::right;
            case 2: return () -> log.board(1 + r / 16 % 4, r / 64 % 3, 1 + r / 256 % 5);
            case 3: return log::newCamera;
            case 4: return log::newSound;
            case 5: return () -> log.falseStart(r / 16 % 24, true);
            case 6: return () -> log.circle(r / 16 % 24, true);
            case 7: return () -> log.off(r / 16 % 199 - 99);
            case 8: return () -> log.fix(r / 16 % 24);
            default: return () -> log.shoot(1 + r / 32 % 120, r / 16 % 2 == 0);
        }
    }
}
