/** Numbers that look random and are the same in each run of the tests. */
final class Dice {
    private long seed;

    Dice(long seed) {
        this.seed = seed * 0x9E3779B97F4A7C15L + 1;
    }

    /** A number from 0 to sides - 1. */
    int roll(int sides) {
        seed = seed * 6364136223846793005L + 1442695040888963407L;
        return (int) ((seed >>> 33) % sides);
    }

    int between(int least, int most) {
        return least + roll(most - least + 1);
    }

    boolean isLucky(int sides) {
        return roll(sides) == 0;
    }
}
