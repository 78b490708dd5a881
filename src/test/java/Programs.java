/** Programs that several tests build on. */
final class Programs {
    /** Steps that withPile and fullPile do before the first of the codes they are given, at (0, 1) and (3, 1). */
    static final int STEPS_OF_WITH_PILE = 9;
    static final int STEPS_OF_FULL_PILE = 12;

    private Programs() {
    }

    /** Puts codes from (x, y) to the right, and on in the next row where a row is full. */
    static void load(BefungeTrace trace, int x, int y, int... codes) {
        for (int i = 0; i < codes.length; i++) {
            int cell = x + 8 * y + i;
            if (trace.put(cell % 8, cell / 8, codes[i]) == BefungeTrace.BAD_ARG) {
                throw new IllegalArgumentException("refused: code " + codes[i] + " in cell " + cell);
            }
        }
    }

    static BefungeTrace loaded(int... codes) {
        BefungeTrace trace = new BefungeTrace();
        load(trace, 0, 0, codes);
        return trace;
    }

    /** Has the pile low, middle, top, any ints, when it comes to the codes, from (0, 1) to the right. */
    static BefungeTrace withPile(int low, int middle, int top, int... codes) {
        BefungeTrace trace = loaded(4, 28, 1, 28, 2, 28, 0, 20);
        load(trace, 7, 1, 18);
        load(trace, 0, 1, codes);
        trace.input(0, low);
        trace.input(1, middle);
        trace.input(2, top);
        return trace;
    }

    /** Has the pile 1 2 3 4 5 6 7 8 9 1 when it comes to the codes, from (3, 1) to the right. */
    static BefungeTrace fullPile(int... codes) {
        BefungeTrace trace = loaded(1, 2, 3, 4, 5, 6, 7, 20, 8, 9, 1);
        load(trace, 7, 1, 18);
        load(trace, 3, 1, codes);
        return trace;
    }

    /** Appends n zeros to the output, at most 16, and ends. */
    static BefungeTrace outputsThenEnd(int n) {
        BefungeTrace trace = new BefungeTrace();
        loadOutputsThenEnd(trace, n);
        return trace;
    }

    static void loadOutputsThenEnd(BefungeTrace trace, int n) {
        // Seven in row 0, one at (7, 1), six in row 2, then (6, 3) and (6, 0) again on the way down to (6, 1).
        load(trace, 0, 0, 25, 25, 25, 25, 25, 25, 25, 20);
        load(trace, 6, 1, 29, 25);
        load(trace, 0, 2, 25, 25, 25, 25, 25, 25, 20, 18);
        trace.put(6, 3, 25);
        int[] behind = {0, 1, 2, 3, 4, 5, 6, 15, 16, 17, 18, 19, 20, 21, 30};
        if (n < behind.length) {
            putCell(trace, behind[n], 29);
        } else if (n == behind.length) {
            // The sixteenth cell is the seventh too, so it can't hold the end: the first one is left out.
            trace.put(0, 0, 0);
        }
    }

    /** Leaves the first n, at most 10, of the numbers 1 2 3 4 5 6 7 8 9 1 on the pile, and ends. */
    static void loadNumbersThenEnd(BefungeTrace trace, int n) {
        load(trace, 0, 0, 1, 2, 3, 4, 5, 6, 7, 20, 8, 9, 1, 29);
        trace.put(7, 1, 18);
        int[] behind = {0, 1, 2, 3, 4, 5, 6, 7, 9, 10};
        if (n < behind.length) {
            putCell(trace, behind[n], 29);
        }
    }

    /** Comes to this cell and turns there; of the line that it then moves in, it has met (0, 0) at most. */
    static BefungeTrace comesTo(int cell, int direction) {
        int x = cell % 8;
        int y = cell / 8;
        boolean alongRow = direction < 2;
        BefungeTrace trace = new BefungeTrace();
        if (alongRow && y > 0) {
            trace.put(x, 0, 20);
        } else if (alongRow && x > 0) {
            trace.put(0, 0, 20);
            trace.put(0, 1, 18);
            trace.put(x, 1, 21);
        } else if (!alongRow && x > 0) {
            trace.put(0, 0, 20);
            trace.put(0, y, 18);
        } else if (!alongRow && y > 0) {
            trace.put(1, 0, 20);
            trace.put(1, y, 19);
        }
        trace.put(x, y, 18 + direction);
        return trace;
    }

    /** The number, x + 8 y, of the cell that lies so many cells from this one in a direction. */
    static int away(int cell, int direction, int distance) {
        int[] right = {1, -1, 0, 0};
        int[] down = {0, 0, 1, -1};
        int x = Math.floorMod(cell % 8 + distance * right[direction], 8);
        int y = Math.floorMod(cell / 8 + distance * down[direction], 4);
        return x + 8 * y;
    }

    static void putCell(BefungeTrace trace, int cell, int code) {
        load(trace, cell % 8, cell / 8, code);
    }
}
