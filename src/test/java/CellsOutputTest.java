/** Promises 7, 12 and 13: codes 25 to 27, the output and programs that read and change themselves. */
public final class CellsOutputTest {
    private static final int MIN = Integer.MIN_VALUE;
    private static final int MAX = Integer.MAX_VALUE;

    public static void main(String[] args) {
        Check check = new Check();
        outputsAppend(check);
        outputFills(check);
        writesEveryCell(check);
        writtenCodeIsMasked(check);
        writesFromShortPile(check);
        readsEveryCell(check);
        readsFromShortPile(check);
        changesWhatComes(check);
        changesItsOwnCell(check);
        check.finish();
    }

    private static void outputsAppend(Check check) {
        BefungeTrace trace = Programs.withPile(MIN, -7, MAX, 25, 25, 25, 25, 29);
        check.dueRun("four outputs", trace, BefungeTrace.ENDED, Programs.STEPS_OF_WITH_PILE + 5, 12);
        check.dueOutput("four outputs", trace, MAX, -7, MIN, 0);
        check.duePile("four outputs", trace);
        check.due("output(MIN_VALUE)", trace.output(MIN), 0);
        check.due("output(MAX_VALUE)", trace.output(MAX), 0);
        trace.put(1, 1, 29);
        trace.run();
        check.dueOutput("a shorter output", trace, MAX);
        check.duePile("a shorter output", trace, MIN, -7);
    }

    private static void outputFills(Check check) {
        BefungeTrace trace = Programs.loaded(1, 2, 25, 25, 3, 4, 25, 25);
        check.dueRun("a full output", trace, BefungeTrace.FULL_OUTPUT, 35, 2);
        check.dueOutput("a full output", trace, 2, 1, 4, 3, 2, 1, 4, 3, 2, 1, 4, 3, 2, 1, 4, 3);
        // The 2 that found no room is off the pile.
        check.duePile("a full output", trace, 1);

        BefungeTrace zeros = Programs.loaded(25, 25, 25, 25, 25, 25, 25, 25);
        check.dueRun("a full output of zeros", zeros, BefungeTrace.FULL_OUTPUT, 17, 0);
        check.dueOutput("a full output of zeros", zeros, new int[16]);

        BefungeTrace sixteen = Programs.outputsThenEnd(16);
        check.dueRun("sixteen outputs", sixteen, BefungeTrace.ENDED, 20, 6 + 8 + 64);
        check.dueOutput("sixteen outputs", sixteen, new int[16]);
    }

    private static int[] gridOf(BefungeTrace trace) {
        int[] codes = new int[32];
        for (int i = 0; i < 32; i++) {
            codes[i] = trace.get(i % 8, i / 8);
        }
        return codes;
    }

    private static void dueWrite(Check check, int v, int x, int y, int cell, int code) {
        BefungeTrace trace = Programs.withPile(v, x, y, 26, 29);
        int[] want = gridOf(trace);
        want[cell] = code;
        String program = "code 26 with v " + v + ", x " + x + ", y " + y;
        check.dueRun(program, trace, BefungeTrace.ENDED, Programs.STEPS_OF_WITH_PILE + 2, 9);
        check.duePile(program, trace);
        check.dueGrid(program, trace, want);
    }

    private static void writesEveryCell(Check check) {
        for (int cell = 0; cell < 32; cell++) {
            int x = cell % 8;
            int y = cell / 8;
            // The cell (1, 1) is where the program ends: it keeps that code.
            int code = cell == 9 ? 29 : 11;
            dueWrite(check, code, x, y, cell, code);
            dueWrite(check, code, x + 8, y + 4, cell, code);
            dueWrite(check, code, x - 8, y - 4, cell, code);
            dueWrite(check, code, x + MIN, y + MIN, cell, code);
        }
    }

    private static void writtenCodeIsMasked(Check check) {
        dueWrite(check, 31, 5, 2, 21, 31);
        dueWrite(check, 32, 0, 0, 0, 0);
        dueWrite(check, 33, 5, 2, 21, 1);
        dueWrite(check, -1, 5, 2, 21, 31);
        dueWrite(check, -32, 0, 0, 0, 0);
        dueWrite(check, MIN, 0, 0, 0, 0);
        dueWrite(check, MAX, 5, 2, 21, 31);
        dueWrite(check, 1000, MAX, MAX, 31, 8);
    }

    private static void writesFromShortPile(Check check) {
        BefungeTrace empty = Programs.loaded(26, 29);
        check.dueRun("code 26 on an empty pile", empty, BefungeTrace.ENDED, 2, 1);
        check.due("get(0, 0) after code 26 on an empty pile", empty.get(0, 0), 0);
        check.due("digest after code 26 on an empty pile", empty.digest(), 58);

        BefungeTrace one = Programs.loaded(2, 26, 29);
        one.put(0, 2, 17);
        check.dueRun("code 26 on one number", one, BefungeTrace.ENDED, 3, 2);
        check.due("get(0, 2) after code 26 on one number", one.get(0, 2), 0);

        BefungeTrace two = Programs.loaded(5, 2, 26, 29);
        two.put(5, 2, 17);
        check.dueRun("code 26 on two numbers", two, BefungeTrace.ENDED, 4, 3);
        check.due("get(5, 2) after code 26 on two numbers", two.get(5, 2), 0);
    }

    private static void dueRead(Check check, int x, int y, int cell) {
        BefungeTrace trace = Programs.withPile(-9, x, y, 27, 29);
        for (int i = 2; i < 7; i++) {
            trace.put(i, 1, 15 + i);
        }
        for (int i = 16; i < 32; i++) {
            Programs.putCell(trace, i, i - 3);
        }
        int[] before = gridOf(trace);
        String program = "code 27 with x " + x + ", y " + y;
        check.dueRun(program, trace, BefungeTrace.ENDED, Programs.STEPS_OF_WITH_PILE + 2, 9);
        check.duePile(program, trace, -9, before[cell]);
        check.dueGrid(program, trace, before);
    }

    private static void readsEveryCell(Check check) {
        for (int cell = 0; cell < 32; cell++) {
            int x = cell % 8;
            int y = cell / 8;
            dueRead(check, x, y, cell);
            dueRead(check, x + 16, y + 8, cell);
            dueRead(check, x - 8, y - 4, cell);
        }
        dueRead(check, MIN, MAX, 24);
        dueRead(check, MAX, MIN, 7);
    }

    private static void readsFromShortPile(Check check) {
        BefungeTrace trace = Programs.loaded(2, 27, 29);
        trace.put(0, 2, 17);
        check.dueRun("code 27 on one number", trace, BefungeTrace.ENDED, 3, 2);
        check.duePile("code 27 on one number", trace, 17);
    }

    private static void changesWhatComes(Check check) {
        BefungeTrace trace = Programs.loaded(28, 6, 4, 26);
        check.dueRun("writes no end ahead", trace, BefungeTrace.TIRED, 400, 0);
        trace.input(0, 29);
        check.dueRun("writes an end ahead", trace, BefungeTrace.ENDED, 7, 6);
        check.due("get(6, 0) after the run", trace.get(6, 0), 29);
        trace.put(3, 0, 0);
        check.dueRun("the grid is as it was left", trace, BefungeTrace.ENDED, 7, 6);
        check.duePile("the grid is as it was left", trace, 29, 6, 4);
    }

    private static void changesItsOwnCell(Check check) {
        BefungeTrace trace = Programs.loaded(28, 3, 4, 26);
        trace.input(0, 29);
        check.dueRun("writes over itself", trace, BefungeTrace.ENDED, 12, 3);
        check.duePile("writes over itself", trace, 29, 3, 4);
        check.due("put(3, 0, 1) after the run", trace.put(3, 0, 1), 29);
    }
}
