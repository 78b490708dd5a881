/** Programs that several tests build on. */
final class Programs {
    /** Steps that withPile and fullPile do before the first of the codes they are given, at (0, 1) and (3, 1). */
    static final int STEPS_OF_WITH_PILE = 9;
    static final int STEPS_OF_FULL_PILE = 12;

    private Programs() {
    }

    /** Puts codes from (x, y) to the right, and on in the next row where a row is full. */
    static void load(BefungeTrace trace, int x, int y, int... codes) {
        for (int i = 0; i < codes.length; i++) {
            int cell = x + 8 * y + i;
            if (trace.put(cell % 8, cell / 8, codes[i]) == BefungeTrace.BAD_ARG) {
                throw new IllegalArgumentException("refused: code " + codes[i] + " in cell " + cell);
            }
        }
    }

    static BefungeTrace loaded(int... codes) {
        BefungeTrace trace = new BefungeTrace();
        load(trace, 0, 0, codes);
        return trace;
    }

    /** Has the pile low, middle, top, any ints, when it comes to the codes, from (0, 1) to the right. */
    static BefungeTrace withPile(int low, int middle, int top, int... codes) {
        BefungeTrace trace = loaded(4, 28, 1, 28, 2, 28, 0, 20);
        load(trace, 7, 1, 18);
        load(trace, 0, 1, codes);
        trace.input(0, low);
        trace.input(1, middle);
        trace.input(2, top);
        return trace;
    }

    /** Has the pile 1 2 3 4 5 6 7 8 9 1 when it comes to the codes, from (3, 1) to the right. */
    static BefungeTrace fullPile(int... codes) {
        BefungeTrace trace = loaded(1, 2, 3, 4, 5, 6, 7, 20, 8, 9, 1);
        load(trace, 7, 1, 18);
        load(trace, 3, 1, codes);
        return trace;
    }

    /** The number, x + 8 y, of the cell that lies so many cells from this one in a direction. */
    static int away(int cell, int direction, int distance) {
        int[] right = {1, -1, 0, 0};
        int[] down = {0, 0, 1, -1};
        int x = Math.floorMod(cell % 8 + distance * right[direction], 8);
        int y = Math.floorMod(cell / 8 + distance * down[direction], 4);
        return x + 8 * y;
    }

    static void putCell(BefungeTrace trace, int cell, int code) {
        load(trace, cell % 8, cell / 8, code);
    }
}
