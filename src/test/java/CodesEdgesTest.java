/** The boundary cases in the table of codes, line by line. */
public final class CodesEdgesTest {
    private static final int MIN = Integer.MIN_VALUE;
    private static final int MAX = Integer.MAX_VALUE;
    /** No number of these is 0, and in some all low bits are 0. */
    private static final int[] NOT_ZERO = {1, -1, 2, 32, 256, 65536, MIN, MIN + 1, MAX};

    public static void main(String[] args) {
        Check check = new Check();
        firstAndLastNumber(check);
        nothing(check);
        greaterOrNot(check);
        zeroOrNot(check);
        rightOrLeft(check);
        downOrUp(check);
        passedOverRoundRows(check);
        passedOverRoundColumns(check);
        sixteenthOutput(check);
        seventeenthOutput(check);
        writtenColumnIsMasked(check);
        writtenRowIsMasked(check);
        writtenCodeIsMasked(check);
        readCellIsMasked(check);
        inputIsMasked(check);
        endAfterAll(check);
        check.finish();
    }

    private static void firstAndLastNumber(Check check) {
        check.of("1 to 9   push this number");
        for (int code : new int[] {1, 2, 8, 9}) {
            BefungeTrace trace = Programs.loaded(code, 29);
            check.dueRun("code " + code, trace, BefungeTrace.ENDED, 2, 1);
            check.duePile("code " + code, trace, code);
        }
        BefungeTrace below = Programs.loaded(0, 29);
        check.dueRun("code 0, below them", below, BefungeTrace.ENDED, 2, 1);
        check.duePile("code 0, below them", below);
        BefungeTrace above = Programs.loaded(4, 3, 10, 29);
        check.dueRun("code 10, above them", above, BefungeTrace.ENDED, 4, 3);
        check.duePile("code 10, above them", above, 7);
    }

    private static void nothing(Check check) {
        for (int code : new int[] {0, 30, 31}) {
            check.of(code == 0 ? "0        nothing" : "30, 31   nothing");
            BefungeTrace trace = Programs.loaded(3, 4, 25, code, code, 29);
            int digest = trace.digest();
            String program = "code " + code;
            check.dueRun(program, trace, BefungeTrace.ENDED, 6, 5);
            check.duePile(program, trace, 3);
            check.dueOutput(program, trace, 4);
            check.due("digest after code " + code, trace.digest(), digest);
        }
    }

    private static void dueTop(Check check, int middle, int top, int code, int... pile) {
        BefungeTrace trace = Programs.withPile(7, middle, top, code, 29);
        String program = "pile 7 " + middle + " " + top + " and code " + code;
        check.dueRun(program, trace, BefungeTrace.ENDED, Programs.STEPS_OF_WITH_PILE + 2, 9);
        check.duePile(program, trace, pile);
    }

    private static void greaterOrNot(Check check) {
        check.of("pop b, then a; push 1 if a > b, else 0");
        for (int n : new int[] {MIN, MIN + 1, -1, 0, 1, MAX - 1, MAX}) {
            dueTop(check, n, n, 13, 7, 0);
        }
        for (int n : new int[] {MIN, -2, -1, 0, MAX - 1}) {
            dueTop(check, n + 1, n, 13, 7, 1);
            dueTop(check, n, n + 1, 13, 7, 0);
        }
        // The difference of these wraps.
        dueTop(check, MAX, MIN, 13, 7, 1);
        dueTop(check, MIN, MAX, 13, 7, 0);
        dueTop(check, 1, MIN, 13, 7, 1);
        dueTop(check, MIN, 1, 13, 7, 0);
        dueTop(check, MAX, -1, 13, 7, 1);
        dueTop(check, -2, MAX, 13, 7, 0);
    }

    private static void zeroOrNot(Check check) {
        check.of("pop a; push 1 if a is 0, else 0");
        dueTop(check, 5, 0, 17, 7, 5, 1);
        for (int a : NOT_ZERO) {
            dueTop(check, 5, a, 17, 7, 5, 0);
        }
    }

    private static void rightOrLeft(Check check) {
        check.of("pop a; direction right if a is 0, else left");
        dueRightOrLeft(check, 0, 6);
        for (int a : NOT_ZERO) {
            dueRightOrLeft(check, a, 4 + 32);
        }
    }

    private static void dueRightOrLeft(Check check, int a, int where) {
        BefungeTrace trace = Programs.loaded(5, 4, 28, 24, 29, 22, 29);
        trace.input(0, a);
        check.dueRun("code 22 on " + a, trace, BefungeTrace.ENDED, 6, where);
        check.duePile("code 22 on " + a, trace, 5);
    }

    private static void downOrUp(Check check) {
        check.of("pop a; direction down if a is 0, else up");
        dueDownOrUp(check, 0, 3 + 8 + 64);
        for (int a : NOT_ZERO) {
            dueDownOrUp(check, a, 3 + 24 + 96);
        }
    }

    private static void dueDownOrUp(Check check, int a, int where) {
        BefungeTrace trace = Programs.loaded(5, 4, 28, 23);
        trace.put(3, 1, 29);
        trace.put(3, 3, 29);
        trace.input(0, a);
        check.dueRun("code 23 on " + a, trace, BefungeTrace.ENDED, 5, where);
        check.duePile("code 23 on " + a, trace, 5);
    }

    private static void passedOverRoundRows(Check check) {
        check.of("the place moves one cell in the present direction (so the next cell is passed over), in rows");
        for (int turn = 0; turn < 32; turn++) {
            dueOver(check, turn, 0);
            dueOver(check, turn, 1);
        }
    }

    private static void passedOverRoundColumns(Check check) {
        check.of("the place moves one cell in the present direction (so the next cell is passed over), in columns");
        for (int turn = 0; turn < 32; turn++) {
            dueOver(check, turn, 2);
            dueOver(check, turn, 3);
        }
    }

    /** Behind the turn there are code 24, a cell that would end the run if it were met, and one that does. */
    private static void dueOver(Check check, int turn, int direction) {
        int pass = Programs.away(turn, direction, 1);
        int over = Programs.away(turn, direction, 2);
        int end = Programs.away(turn, direction, 3);
        // The cell in which every run begins can't be one of these.
        if (pass == 0 || over == 0 || end == 0) {
            return;
        }
        BefungeTrace trace = Programs.comesTo(turn, direction);
        Programs.putCell(trace, pass, 29);
        String program = "code 24 in cell " + pass + " in direction " + direction;
        check.due(program + ": run up to it", trace.run(), BefungeTrace.ENDED);
        check.due(program + ": where up to it", trace.where(), pass + 32 * direction);
        int steps = trace.steps();
        Programs.putCell(trace, pass, 24);
        Programs.putCell(trace, over, 29);
        Programs.putCell(trace, end, 29);
        check.dueRun(program, trace, BefungeTrace.ENDED, steps + 1, end + 32 * direction);
    }

    private static void sixteenthOutput(Check check) {
        check.of("else a is appended to it");
        for (int n = 0; n <= 16; n++) {
            BefungeTrace trace = Programs.outputsThenEnd(n);
            check.due("run of " + n + " outputs", trace.run(), BefungeTrace.ENDED);
            check.dueOutput(n + " outputs", trace, new int[n]);
        }
    }

    private static void seventeenthOutput(Check check) {
        check.of("pop a; if the output has 16 numbers the run ends FULL_OUTPUT");
        BefungeTrace trace = Programs.loaded(28, 25, 2, 25, 3, 25, 4, 25);
        trace.input(0, MIN);
        check.dueRun("a seventeenth output", trace, BefungeTrace.FULL_OUTPUT, 34, 1);
        check.dueOutput("a seventeenth output", trace, MIN, 2, 3, 4, MIN, 2, 3, 4, MIN, 2, 3, 4, MIN, 2, 3, 4);
        check.duePile("a seventeenth output", trace);

        BefungeTrace zeros = Programs.outputsThenEnd(16);
        zeros.put(6, 1, 25);
        check.dueRun("a seventeenth zero", zeros, BefungeTrace.FULL_OUTPUT, 20, 6 + 8 + 64);
        check.dueOutput("a seventeenth zero", zeros, new int[16]);
    }

    /** All other cells keep their codes. */
    private static void dueWritten(Check check, int v, int x, int y, int cell, int code) {
        BefungeTrace trace = Programs.withPile(v, x, y, 26, 29);
        for (int i = 16; i < 32; i++) {
            Programs.putCell(trace, i, 12);
        }
        int[] want = new int[32];
        for (int i = 0; i < 32; i++) {
            want[i] = trace.get(i % 8, i / 8);
        }
        want[cell] = code;
        String program = "code 26 with v " + v + ", x " + x + ", y " + y;
        check.dueRun(program, trace, BefungeTrace.ENDED, Programs.STEPS_OF_WITH_PILE + 2, 9);
        check.duePile(program, trace);
        check.dueGrid(program, trace, want);
    }

    private static void writtenColumnIsMasked(Check check) {
        check.of("the cell at (x & 7, y & 3) gets the code, of the column");
        int[] columns = {0, 7, 8, 9, 15, 16, -1, -7, -8, -9, 1 << 20, MIN, MIN + 1, MAX};
        int[] masked = {0, 7, 0, 1, 7, 0, 7, 1, 0, 7, 0, 0, 1, 7};
        for (int i = 0; i < columns.length; i++) {
            dueWritten(check, 5, columns[i], 2, 16 + masked[i], 5);
        }
    }

    private static void writtenRowIsMasked(Check check) {
        check.of("the cell at (x & 7, y & 3) gets the code, of the row");
        int[] rows = {0, 2, 3, 4, 6, 7, 8, -1, -2, -4, -5, 1 << 20, MIN, MIN + 2, MAX};
        int[] masked = {0, 2, 3, 0, 2, 3, 0, 3, 2, 0, 3, 0, 0, 2, 3};
        for (int i = 0; i < rows.length; i++) {
            dueWritten(check, 5, 6, rows[i], 6 + 8 * masked[i], 5);
        }
    }

    private static void writtenCodeIsMasked(Check check) {
        check.of("gets the code v & 31 (bitwise and)");
        int[] numbers = {0, 31, 32, 33, 63, 64, -1, -31, -32, -33, 1 << 20, MIN, MIN + 1, MAX};
        int[] masked = {0, 31, 0, 1, 31, 0, 31, 1, 0, 31, 0, 0, 1, 31};
        for (int i = 0; i < numbers.length; i++) {
            dueWritten(check, numbers[i], 7, 3, 31, masked[i]);
        }
    }

    private static void dueReadFrom(Check check, int x, int y, int cell) {
        BefungeTrace trace = Programs.withPile(-9, x, y, 27, 29);
        for (int i = 16; i < 32; i++) {
            Programs.putCell(trace, i, i - 1);
        }
        Programs.load(trace, 2, 1, 10, 11, 12, 13, 14);
        int want = trace.get(cell % 8, cell / 8);
        int digest = trace.digest();
        String program = "code 27 with x " + x + ", y " + y;
        check.dueRun(program, trace, BefungeTrace.ENDED, Programs.STEPS_OF_WITH_PILE + 2, 9);
        check.duePile(program, trace, -9, want);
        check.due(program + ": digest", trace.digest(), digest);
    }

    private static void readCellIsMasked(Check check) {
        check.of("push the code of the cell at (x & 7, y & 3)");
        int[] columns = {0, 7, 8, 9, 15, 16, -1, -7, -8, -9, 1 << 20, MIN, MIN + 1, MAX};
        int[] maskedColumns = {0, 7, 0, 1, 7, 0, 7, 1, 0, 7, 0, 0, 1, 7};
        for (int i = 0; i < columns.length; i++) {
            dueReadFrom(check, columns[i], 3, 24 + maskedColumns[i]);
        }
        int[] rows = {0, 1, 2, 3, 4, 5, 6, 7, 8, -1, -2, -3, -4, -5, 1 << 20, MIN, MIN + 1, MAX};
        int[] maskedRows = {0, 1, 2, 3, 0, 1, 2, 3, 0, 3, 2, 1, 0, 3, 0, 0, 1, 3};
        for (int i = 0; i < rows.length; i++) {
            dueReadFrom(check, 5, rows[i], 5 + 8 * maskedRows[i]);
        }
    }

    private static void inputIsMasked(Check check) {
        check.of("push the input number with the number popped, a: input a & 3");
        int[] numbers = {0, 1, 2, 3, 4, 5, 7, 8, -1, -2, -3, -4, -5, 1 << 20, MIN, MIN + 1, MAX};
        int[] masked = {0, 1, 2, 3, 0, 1, 3, 0, 3, 2, 1, 0, 3, 0, 0, 1, 3};
        for (int i = 0; i < numbers.length; i++) {
            // The number comes from an input that isn't the one it chooses.
            int source = masked[i] == 3 ? 2 : 3;
            BefungeTrace trace = Programs.loaded(source, 28, 28, 29);
            for (int input = 0; input < 4; input++) {
                trace.input(input, input == source ? numbers[i] : 50 + input);
            }
            String program = "code 28 on " + numbers[i];
            check.dueRun(program, trace, BefungeTrace.ENDED, 4, 3);
            check.duePile(program, trace, 50 + masked[i]);
        }
    }

    private static void endAfterAll(Check check) {
        check.of("the run ends ENDED");
        BefungeTrace first = Programs.loaded(29, 1, 25);
        check.dueRun("an end first", first, BefungeTrace.ENDED, 1, 0);
        check.duePile("an end first", first);
        BefungeTrace full = Programs.fullPile(29, 1);
        check.dueRun("an end on ten", full, BefungeTrace.ENDED, Programs.STEPS_OF_FULL_PILE + 1, 11);
        check.duePile("an end on ten", full, 1, 2, 3, 4, 5, 6, 7, 8, 9, 1);
        BefungeTrace output = Programs.outputsThenEnd(16);
        check.dueRun("an end after sixteen", output, BefungeTrace.ENDED, 20, 6 + 8 + 64);
    }
}
