import java.util.Map;

/** The boundary cases of promises 1 to 6 and 15; what is refused is in RefusedCallsTest. */
public final class CallsEdgesTest {
    private static final int MIN = Integer.MIN_VALUE;
    private static final int MAX = Integer.MAX_VALUE;

    public static void main(String[] args) {
        Check check = new Check();
        newObjectIsEmpty(check);
        newObjectHasNoInputs(check);
        putTakesTheEdges(check);
        putTellsTheCodeBefore(check);
        putThreeGoesRoundTheEdge(check);
        putThreeTakesTheEdges(check);
        putThreeUnpacksTheEdges(check);
        getTakesTheEdges(check);
        clearEmptiesFullAndEmpty(check);
        clearLeavesTheRest(check);
        inputTakesTheEdges(check);
        inputTakesEveryNumber(check);
        digestOfEmptyAndFull(check);
        digestWeighsEveryCell(check);
        check.finish();
    }

    private static void newObjectIsEmpty(Check check) {
        check.of("All codes and inputs are 0; no run yet, pile and output empty.");
        BefungeTrace trace = new BefungeTrace();
        check.dueGrid("a new object", trace, new int[32]);
        check.due("digest of a new object", trace.digest(), 0);
        check.dueLastRun("a new object", trace, BefungeTrace.NO_RUN, 0, 0);
        check.duePile("a new object", trace);
        check.dueOutput("a new object", trace);
    }

    private static void newObjectHasNoInputs(Check check) {
        check.of("All codes and inputs are 0");
        // Another object's inputs, set before and after, are not this one's.
        BefungeTrace before = State.endedSo(BefungeTrace.NO_RUN);
        BefungeTrace trace = new BefungeTrace();
        before.input(0, 5);
        State.dueInputs(check, "nothing", trace, 0, 0, 0, 0);
    }

    private static void duePut(Check check, BefungeTrace trace, int x, int y, int code, int before) {
        String call = "put(" + x + ", " + y + ", " + code + ")";
        check.due(call, trace.put(x, y, code), before);
        check.due("get after " + call, trace.get(x, y), code);
    }

    private static void putTakesTheEdges(Check check) {
        check.of("put: x 0 to 7, y 0 to 3 and code 0 to 31 are taken");
        for (int x : new int[] {0, 1, 6, 7}) {
            for (int y = 0; y < 4; y++) {
                BefungeTrace trace = new BefungeTrace();
                duePut(check, trace, x, y, 31, 0);
                duePut(check, trace, x, y, 0, 31);
                duePut(check, trace, x, y, 1, 0);
                duePut(check, trace, x, y, 30, 1);
                int[] want = new int[32];
                want[x + 8 * y] = 30;
                check.dueGrid("puts at (" + x + ", " + y + ")", trace, want);
            }
        }
    }

    private static void putTellsTheCodeBefore(Check check) {
        check.of("Otherwise the code before.");
        BefungeTrace trace = new BefungeTrace();
        duePut(check, trace, 2, 0, 7, 0);
        duePut(check, trace, 2, 0, 7, 7);
        trace.putThree(0, 0, 1 + 32 * 2 + 1024 * 3);
        duePut(check, trace, 2, 0, 9, 3);
        trace.put(2, 0, 32);
        trace.put(2, 0, -1);
        duePut(check, trace, 2, 0, 8, 9);
        trace.clear();
        duePut(check, trace, 2, 0, 6, 0);
        // On an empty pile, code 26 writes 0 into (0, 0).
        Programs.load(trace, 0, 0, 26, 0, 6, 29);
        trace.run();
        duePut(check, trace, 0, 0, 5, 0);
        duePut(check, trace, 2, 0, 5, 6);
    }

    private static void putThreeGoesRoundTheEdge(Check check) {
        check.of("(x, y), (x + 1, y), (x + 2, y) (round the edge)");
        for (int y = 0; y < 4; y++) {
            for (int x : new int[] {0, 5, 6, 7}) {
                BefungeTrace trace = new BefungeTrace();
                int[] want = new int[32];
                for (int cell = 0; cell < 32; cell++) {
                    Programs.putCell(trace, cell, 9);
                    want[cell] = 9;
                }
                String call = "putThree(" + x + ", " + y + ")";
                check.due(call, trace.putThree(x, y, 31 + 32 * 1 + 1024 * 16), 0);
                want[x + 8 * y] = 31;
                want[(x + 1) % 8 + 8 * y] = 1;
                want[(x + 2) % 8 + 8 * y] = 16;
                check.dueGrid(call, trace, want);
            }
        }
    }

    private static void putThreeTakesTheEdges(Check check) {
        check.of("putThree: x 0 to 7, y 0 to 3 and packed 0 to 32767 are taken. Otherwise 0.");
        for (int x : new int[] {0, 7}) {
            for (int y : new int[] {0, 3}) {
                BefungeTrace trace = new BefungeTrace();
                check.due("putThree of 32767", trace.putThree(x, y, 32767), 0);
                check.due("digest of three 31", trace.digest(), 31 * (24 * y + (x == 0 ? 6 : 11)));
                check.due("putThree of 0", trace.putThree(x, y, 0), 0);
                check.due("digest of three 0", trace.digest(), 0);
                check.due("putThree of 1", trace.putThree(x, y, 1), 0);
                check.due("putThree of 32766", trace.putThree(x, y, 32766), 0);
            }
        }
    }

    private static void putThreeUnpacksTheEdges(Check check) {
        check.of("packed as a + 32 b + 1024 c");
        int[] packed = {0, 1, 31, 32, 33, 992, 1023, 1024, 1025, 1056, 31744, 32735, 32736, 32766, 32767};
        int[][] codes = {{0, 0, 0}, {1, 0, 0}, {31, 0, 0}, {0, 1, 0}, {1, 1, 0}, {0, 31, 0}, {31, 31, 0}, {0, 0, 1},
            {1, 0, 1}, {0, 1, 1}, {0, 0, 31}, {31, 30, 31}, {0, 31, 31}, {30, 31, 31}, {31, 31, 31}};
        for (int i = 0; i < packed.length; i++) {
            BefungeTrace trace = new BefungeTrace();
            check.due("putThree(2, 1, " + packed[i] + ")", trace.putThree(2, 1, packed[i]), 0);
            for (int k = 0; k < 3; k++) {
                check.due("get(" + (2 + k) + ", 1) after " + packed[i], trace.get(2 + k, 1), codes[i][k]);
            }
        }
    }

    private static void getTakesTheEdges(Check check) {
        check.of("The code of the cell at (x, y)");
        BefungeTrace trace = new BefungeTrace();
        int[] corners = {0, 7, 24, 31};
        for (int i = 0; i < 4; i++) {
            Programs.putCell(trace, corners[i], 10 + i);
        }
        check.due("get(0, 0)", trace.get(0, 0), 10);
        check.due("get(7, 0)", trace.get(7, 0), 11);
        check.due("get(0, 3)", trace.get(0, 3), 12);
        check.due("get(7, 3)", trace.get(7, 3), 13);
    }

    private static void clearEmptiesFullAndEmpty(Check check) {
        check.of("All codes become 0.");
        BefungeTrace trace = new BefungeTrace();
        for (int cell = 0; cell < 32; cell++) {
            Programs.putCell(trace, cell, 31);
        }
        trace.clear();
        check.dueGrid("a full grid after clear", trace, new int[32]);
        trace.clear();
        check.dueGrid("an empty grid after clear", trace, new int[32]);
        check.due("digest after clear", trace.digest(), 0);
        check.dueRun("a run after clear", trace, BefungeTrace.TIRED, 400, 0);
        trace.put(7, 3, 1);
        trace.clear();
        check.dueGrid("one code after clear", trace, new int[32]);
    }

    private static void clearLeavesTheRest(Check check) {
        check.of("All codes become 0: nothing else does");
        for (int ending : State.ENDINGS) {
            BefungeTrace trace = State.endedSo(ending);
            Map<String, Integer> want = State.answers(trace);
            want.replaceAll((call, answer) -> call.startsWith("get") || call.startsWith("digest") ? 0 : answer);
            trace.clear();
            State.dueAnswers(check, "clear in the state of ending " + ending, trace, want);
            State.dueInputs(check, "clear", trace, State.INPUTS);
        }
    }

    private static void inputTakesTheEdges(Check check) {
        check.of("Input i becomes v; i 0 to 3 is taken, otherwise 0");
        for (int i = 0; i < 4; i++) {
            BefungeTrace trace = State.endedSo(BefungeTrace.ENDED);
            Map<String, Integer> before = State.answers(trace);
            int[] want = State.INPUTS.clone();
            want[i] = 5;
            check.due("input(" + i + ", 5)", trace.input(i, 5), 0);
            State.dueAnswers(check, "input(" + i + ", 5)", trace, before);
            State.dueInputs(check, "input(" + i + ", 5)", trace, want);
        }
    }

    private static void inputTakesEveryNumber(Check check) {
        check.of("Input i becomes v");
        for (int v : new int[] {MIN, MIN + 1, -65536, -1, 0, 1, 31, 32, 65536, MAX - 1, MAX}) {
            BefungeTrace trace = new BefungeTrace();
            for (int i = 0; i < 4; i++) {
                check.due("input(" + i + ", " + v + ")", trace.input(i, v), 0);
            }
            State.dueInputs(check, "input of " + v, trace, v, v, v, v);
        }
    }

    private static void digestOfEmptyAndFull(Check check) {
        check.of("The sum over all cells");
        BefungeTrace trace = new BefungeTrace();
        check.due("digest of an empty grid", trace.digest(), 0);
        for (int cell = 0; cell < 32; cell++) {
            Programs.putCell(trace, cell, 31);
        }
        check.due("digest of a grid full of 31", trace.digest(), 16368);
        trace.put(0, 0, 0);
        check.due("digest without the first cell", trace.digest(), 16368 - 31);
        trace.put(7, 3, 0);
        check.due("digest without the last cell", trace.digest(), 16368 - 31 - 31 * 32);
    }

    private static void digestWeighsEveryCell(Check check) {
        check.of("(x + 8 y + 1) times the code");
        for (int cell = 0; cell < 32; cell++) {
            BefungeTrace trace = new BefungeTrace();
            Programs.putCell(trace, cell, 1);
            check.due("digest of a 1 in cell " + cell, trace.digest(), cell + 1);
            Programs.putCell(trace, cell, 31);
            check.due("digest of a 31 in cell " + cell, trace.digest(), 31 * (cell + 1));
        }
        // A run that writes 31 into (7, 3) changes it too.
        BefungeTrace run = Programs.withPile(-1, 7, 3, 26, 29);
        int before = run.digest();
        run.run();
        check.due("digest after code 26", run.digest(), before + 31 * 32);
    }
}
