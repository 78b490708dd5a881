import java.util.Map;

/** "A refused call answers the code named and changes nothing.", for each call that can be refused. */
public final class RefusedCallsTest {
    private static final int MIN = Integer.MIN_VALUE;
    private static final int MAX = Integer.MAX_VALUE;
    // The far ones would be in range again if only some of their bits were looked at.
    private static final int[] BAD_COLUMNS = {-1, 8, -8, 15, 256, 65536, MIN, MAX};
    private static final int[] BAD_ROWS = {-1, 4, -4, 7, 256, 65536, MIN, MAX};
    private static final int[] BAD_CODES = {-1, 32, -32, 33, 256, 65536, MIN, MAX};
    private static final int[] BAD_PACKED = {-1, 32768, -32768, 32769, 65536, 1 << 20, MIN, MAX};
    private static final int[] BAD_INPUTS = {-1, 4, -4, 7, 256, 65536, MIN, MAX};

    /** A call that is refused. */
    private interface Call {
        int on(BefungeTrace trace);
    }

    public static void main(String[] args) {
        Check check = new Check();
        statesAreAsMade(check);
        putOutOfColumns(check);
        putOutOfRows(check);
        putOutOfCodes(check);
        putOutOfAll(check);
        putThreeOutOfColumns(check);
        putThreeOutOfRows(check);
        putThreeOutOfPacked(check);
        putThreeOutOfAll(check);
        getOutOfColumns(check);
        getOutOfRows(check);
        inputOutOfInputs(check);
        manyRefusedCalls(check);
        check.finish();
    }

    private static void statesAreAsMade(Check check) {
        for (int ending : State.ENDINGS) {
            State.dueAsMade(check, State.endedSo(ending), ending);
        }
    }

    /** Makes the call on an object of each state, and looks at all that it must leave as it was. */
    private static void dueRefused(Check check, String call, Call refused) {
        for (int ending : State.ENDINGS) {
            BefungeTrace trace = State.endedSo(ending);
            Map<String, Integer> before = State.answers(trace);
            String when = call + " in the state of ending " + ending;
            check.due(when, refused.on(trace), BefungeTrace.BAD_ARG);
            State.dueAnswers(check, when, trace, before);
            State.dueInputs(check, when, trace, State.INPUTS);
        }
        BefungeTrace fresh = new BefungeTrace();
        Map<String, Integer> before = State.answers(fresh);
        String when = call + " on a new object";
        check.due(when, refused.on(fresh), BefungeTrace.BAD_ARG);
        State.dueAnswers(check, when, fresh, before);
        State.dueInputs(check, when, fresh, 0, 0, 0, 0);
    }

    private static void duePutRefused(Check check, int x, int y, int code) {
        dueRefused(check, "put(" + x + ", " + y + ", " + code + ")", trace -> trace.put(x, y, code));
    }

    private static void duePutThreeRefused(Check check, int x, int y, int packed) {
        dueRefused(check, "putThree(" + x + ", " + y + ", " + packed + ")", trace -> trace.putThree(x, y, packed));
    }

    private static void dueGetRefused(Check check, int x, int y) {
        dueRefused(check, "get(" + x + ", " + y + ")", trace -> trace.get(x, y));
    }

    private static void putOutOfColumns(Check check) {
        check.of("put: BAD_ARG if x is not 0 to 7");
        for (int x : BAD_COLUMNS) {
            duePutRefused(check, x, 0, 29);
            duePutRefused(check, x, 3, 0);
        }
    }

    private static void putOutOfRows(Check check) {
        check.of("put: BAD_ARG if y not 0 to 3");
        for (int y : BAD_ROWS) {
            duePutRefused(check, 0, y, 29);
            duePutRefused(check, 7, y, 0);
        }
    }

    private static void putOutOfCodes(Check check) {
        check.of("put: BAD_ARG if code not 0 to 31");
        for (int code : BAD_CODES) {
            duePutRefused(check, 0, 0, code);
            duePutRefused(check, 7, 3, code);
        }
    }

    private static void putOutOfAll(Check check) {
        check.of("put: BAD_ARG if more than one is out of its range");
        duePutRefused(check, -1, -1, 29);
        duePutRefused(check, 8, 4, 29);
        duePutRefused(check, 8, 3, 32);
        duePutRefused(check, 7, 4, -1);
        duePutRefused(check, MIN, MAX, MIN);
    }

    private static void putThreeOutOfColumns(Check check) {
        check.of("putThree: BAD_ARG if x is not 0 to 7");
        for (int x : BAD_COLUMNS) {
            duePutThreeRefused(check, x, 0, 29 + 32 * 30 + 1024 * 31);
            duePutThreeRefused(check, x, 3, 0);
        }
        // The second or third cell of these would be one of the grid.
        duePutThreeRefused(check, -2, 1, 29 + 32 * 30 + 1024 * 31);
    }

    private static void putThreeOutOfRows(Check check) {
        check.of("putThree: BAD_ARG if y not 0 to 3");
        for (int y : BAD_ROWS) {
            duePutThreeRefused(check, 0, y, 29 + 32 * 30 + 1024 * 31);
            duePutThreeRefused(check, 7, y, 0);
        }
    }

    private static void putThreeOutOfPacked(Check check) {
        check.of("putThree: BAD_ARG if packed not 0 to 32767");
        for (int packed : BAD_PACKED) {
            duePutThreeRefused(check, 0, 0, packed);
            duePutThreeRefused(check, 7, 3, packed);
        }
    }

    private static void putThreeOutOfAll(Check check) {
        check.of("putThree: BAD_ARG if more than one is out of its range");
        duePutThreeRefused(check, -1, -1, 0);
        duePutThreeRefused(check, 8, 4, 0);
        duePutThreeRefused(check, 8, 3, 32768);
        duePutThreeRefused(check, 7, 4, -1);
        duePutThreeRefused(check, MIN, MAX, MIN);
    }

    private static void getOutOfColumns(Check check) {
        check.of("get: BAD_ARG if there is no such cell, of the columns");
        for (int x : BAD_COLUMNS) {
            dueGetRefused(check, x, 0);
            dueGetRefused(check, x, 3);
        }
    }

    private static void getOutOfRows(Check check) {
        check.of("get: BAD_ARG if there is no such cell, of the rows");
        for (int y : BAD_ROWS) {
            dueGetRefused(check, 0, y);
            dueGetRefused(check, 7, y);
        }
        dueGetRefused(check, -1, -1);
        dueGetRefused(check, 8, 4);
    }

    private static void inputOutOfInputs(Check check) {
        check.of("input: BAD_ARG if i is not 0 to 3");
        for (int i : BAD_INPUTS) {
            for (int v : new int[] {0, 9, MIN, MAX}) {
                dueRefused(check, "input(" + i + ", " + v + ")", trace -> trace.input(i, v));
            }
        }
    }

    private static void manyRefusedCalls(Check check) {
        check.of("A refused call answers the code named and changes nothing, however many there are");
        for (int ending : State.ENDINGS) {
            BefungeTrace trace = State.endedSo(ending);
            Map<String, Integer> before = State.answers(trace);
            for (int i = 0; i < 20; i++) {
                check.due("put(8, 0, 1)", trace.put(8, 0, 1), BefungeTrace.BAD_ARG);
                check.due("putThree(0, 4, 1)", trace.putThree(0, 4, 1), BefungeTrace.BAD_ARG);
                check.due("get(0, -1)", trace.get(0, -1), BefungeTrace.BAD_ARG);
                check.due("input(4, 1)", trace.input(4, 1), BefungeTrace.BAD_ARG);
            }
            State.dueAnswers(check, "80 refused calls", trace, before);
            State.dueInputs(check, "80 refused calls", trace, State.INPUTS);
        }
    }
}
