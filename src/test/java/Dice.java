/** Numbers that look like chance and are the same in every run. */
final class Dice {
    private long state;

    Dice(long seed) {
        state = seed;
    }

    int below(int n) {
        state = state * 6364136223846793005L + 1442695040888963407L;
        return (int) Math.floorMod(state >>> 33, (long) n);
    }

    long eight() {
        return ((long) below(1 << 30) << 34) ^ ((long) below(1 << 30) << 15) ^ below(1 << 30);
    }
}
