/** Numbers that look drawn, and are the same in each run. */
final class Draws {
    private long state;

    Draws(long seed) {
        // Not a multiple of the step in next(): streams of two seeds must not overlap.
        state = seed * 0xD1342543DE82EF95L + 0x632BE59BD9B4E019L;
        state ^= next();
    }

    private long next() {
        state += 0x9E3779B97F4A7C15L;
        long z = state;
        z = (z ^ z >>> 30) * 0xBF58476D1CE4E5B9L;
        z = (z ^ z >>> 27) * 0x94D049BB133111EBL;
        return z ^ z >>> 31;
    }

    long any() {
        return next();
    }

    /** 0 to n - 1. */
    int below(int n) {
        return (int) Long.remainderUnsigned(next(), n);
    }

    int from(int least, int most) {
        return least + below(most - least + 1);
    }

    boolean oneIn(int n) {
        return below(n) == 0;
    }

    String oneOf(String words) {
        String[] all = words.split(" ");
        return all[below(all.length)];
    }
}
