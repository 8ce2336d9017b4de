/** Numbers that look drawn, and are the same in each run. */
final class Lottery {
    private long state;

    Lottery(long seed) {
        state = seed * 0x9E3779B97F4A7C15L + 1;
    }

    /** A number from 0 on, below a limit. */
    int below(int limit) {
        state = state * 6364136223846793005L + 1442695040888963407L;
        return (int) ((state >>> 33) % limit);
    }

    boolean isHit(int outOf) {
        return below(outOf) == 0;
    }
}
