/** Numbers that look thrown, the same for the same seed on every machine. */
final class Dice {
    private long at;

    Dice(long seed) {
        at = seed * 0x9E3779B97F4A7C15L + 1;
    }

    long nextLong() {
        at += 0x9E3779B97F4A7C15L;
        long z = (at ^ at >>> 30) * 0xBF58476D1CE4E5B9L;
        z = (z ^ z >>> 27) * 0x94D049BB133111EBL;
        return z ^ z >>> 31;
    }

    int nextInt(int below) {
        return (int) Long.remainderUnsigned(nextLong(), below);
    }

    boolean nextBoolean() {
        return nextInt(2) == 1;
    }
}
