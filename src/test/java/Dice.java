/** Numbers that look thrown, and are the same in every run. */
final class Dice {
    private long state;

    Dice(long seed) {
        state = seed * 0x9E3779B97F4A7C15L + 1;
    }

    int from(int least, int most) {
        state = state * 6364136223846793005L + 1442695040888963407L;
        return least + (int) Long.remainderUnsigned(state >>> 33, most - least + 1L);
    }
}
