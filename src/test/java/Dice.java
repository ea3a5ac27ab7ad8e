/** Numbers that look thrown, but are the same in every run. */
final class Dice {
    private long state;

    Dice(long seed) {
        state = seed;
    }

    int below(int bound) {
        state = state * 6364136223846793005L + 1442695040888963407L;
        return (int) ((state >>> 33) % bound);
    }
}
