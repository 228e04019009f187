/** Numbers that look drawn, and are the same each time for the same start. */
final class Draws {
    private long state;

    Draws(long start) {
        state = start;
    }

    int next() {
        state += 0x9E3779B97F4A7C15L;
        long mixed = (state ^ state >>> 30) * 0xBF58476D1CE4E5B9L;
        mixed = (mixed ^ mixed >>> 27) * 0x94D049BB133111EBL;
        return (int) (mixed ^ mixed >>> 31);
    }

    /** 0 to one less than the bound. */
    int below(int bound) {
        return Math.floorMod(next(), bound);
    }
}
