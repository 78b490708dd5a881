import java.util.LinkedHashMap;
import java.util.Map;

/** Objects in which every answer is worth keeping, one for each way in which a last run can have ended. */
final class State {
    static final int[] INPUTS = {101, -102, Integer.MAX_VALUE, Integer.MIN_VALUE};
    static final int[] ENDINGS = {
        BefungeTrace.NO_RUN, BefungeTrace.ENDED, BefungeTrace.TIRED, BefungeTrace.FULL_PILE, BefungeTrace.FULL_OUTPUT};

    private State() {
    }

    /** Has no cell that a wrong put would find as it leaves it, all inputs set, and a last run that ended so. */
    static BefungeTrace endedSo(int ending) {
        BefungeTrace trace = new BefungeTrace();
        for (int cell = 0; cell < 32; cell++) {
            Programs.putCell(trace, cell, 3 + cell % 7);
        }
        for (int i = 0; i < 4; i++) {
            trace.input(i, INPUTS[i]);
        }
        switch (ending) {
            case BefungeTrace.ENDED:
                Programs.load(trace, 0, 0, 3, 4, 5, 25, 20);
                trace.put(4, 1, 29);
                break;
            case BefungeTrace.TIRED:
                Programs.load(trace, 0, 0, 3, 4, 25, 20);
                trace.put(3, 1, 31);
                trace.put(3, 2, 30);
                trace.put(3, 3, 21);
                break;
            case BefungeTrace.FULL_PILE:
                Programs.load(trace, 0, 0, 19, 6, 5, 4, 3, 2, 25, 1);
                break;
            case BefungeTrace.FULL_OUTPUT:
                Programs.load(trace, 0, 0, 19, 25, 6, 9, 25, 8, 25, 7);
                break;
            default:
                return trace;
        }
        trace.run();
        return trace;
    }

    /** What endedSo must have come to, so that a test which leans on it does not lean on nothing. */
    static void dueAsMade(Check check, BefungeTrace trace, int ending) {
        String program = "the state of ending " + ending;
        int[] steps = {0, 6, 400, 18, 45};
        int[] wheres = {0, 4 + 8 + 64, 3 + 8 + 64, 7 + 32, 4 + 32};
        int[][] piles = {{}, {3, 4}, {3}, {2, 3, 4, 5, 6, 2, 3, 4, 5, 6}, {9, 9, 9, 9, 9}};
        int[][] outputs = {{}, {5}, {4}, {1, 1}, {7, 8, 6, 7, 8, 6, 7, 8, 6, 7, 8, 6, 7, 8, 6, 7}};
        check.dueLastRun(program, trace, ending, steps[ending], wheres[ending]);
        check.duePile(program, trace, piles[ending]);
        check.dueOutput(program, trace, outputs[ending]);
    }

    /** All that can be asked without a change: 68 calls. The inputs are not among it, see dueInputs. */
    static Map<String, Integer> answers(BefungeTrace trace) {
        Map<String, Integer> answers = new LinkedHashMap<>();
        for (int cell = 0; cell < 32; cell++) {
            answers.put("get(" + cell % 8 + ", " + cell / 8 + ")", trace.get(cell % 8, cell / 8));
        }
        answers.put("digest()", trace.digest());
        answers.put("ending()", trace.ending());
        answers.put("steps()", trace.steps());
        answers.put("where()", trace.where());
        answers.put("height()", trace.height());
        answers.put("outputs()", trace.outputs());
        for (int i = -1; i <= 10; i++) {
            answers.put("pile(" + i + ")", trace.pile(i));
        }
        for (int i = -1; i <= 16; i++) {
            answers.put("output(" + i + ")", trace.output(i));
        }
        return answers;
    }

    static void dueAnswers(Check check, String when, BefungeTrace trace, Map<String, Integer> before) {
        Map<String, Integer> now = answers(trace);
        for (String call : before.keySet()) {
            check.due(call + " after " + when, now.get(call), before.get(call));
        }
    }

    /** Only a run tells the inputs, so this changes the grid and the last run. */
    static void dueInputs(Check check, String when, BefungeTrace trace, int... inputs) {
        trace.clear();
        Programs.load(trace, 0, 0, 28, 1, 28, 2, 28, 3, 28, 29);
        check.dueRun("all inputs after " + when, trace, BefungeTrace.ENDED, 8, 7);
        check.duePile("all inputs after " + when, trace, inputs);
    }
}
