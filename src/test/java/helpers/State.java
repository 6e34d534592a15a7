/** All that can be told of an object without a change to it, but for its acts, TAPE and fault; of two alike it is the same. */
final class State {
    private State() {
    }

    static String of(GrudgeIce x) {
        StringBuilder told = new StringBuilder();
        counts(told, x);
        int families = x.count(0);
        for (int f = 0; f < families; f++) {
            told.append("; family ").append(f).append(':');
            for (int what = 0; what < 4; what++) told.append(' ').append(x.family(f, what));
        }
        grudges(told, x);
        told.append("; slights:");
        for (int s = 0; s < 8; s++) told.append(' ').append(x.slight(s, 0)).append(' ').append(x.slight(s, 1));
        told.append("; heat:");
        for (int q = 0; q < 4; q++) told.append(' ').append(x.heat(q));
        int rows = x.count(10);
        for (int ago = 0; ago < rows; ago++) {
            told.append("; row ").append(ago).append(':');
            for (int what = 0; what < 4; what++) told.append(' ').append(x.log(ago, what));
        }
        int seed = x.seed(0);
        x.seed(seed);
        return told.append("; seed ").append(seed).toString();
    }

    private static void counts(StringBuilder told, GrudgeIce x) {
        told.append("counts:");
        for (int what = 0; what < 11; what++) told.append(' ').append(x.count(what));
    }

    private static void grudges(StringBuilder told, GrudgeIce x) {
        for (int g = 0; g < 10; g++) {
            StringBuilder one = new StringBuilder("; grudge " + g + ":");
            try {
                for (int what = 0; what < 10; what++) one.append(' ').append(x.grudge(g, what));
            } catch (IndexOutOfBoundsException e) {
                return;
            }
            told.append(one);
        }
    }
}
