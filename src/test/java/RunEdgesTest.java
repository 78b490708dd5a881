import java.util.Arrays;
import java.util.Map;

/** The boundary cases of promises 7 to 14. */
public final class RunEdgesTest {
    private static final int[] FAR = {Integer.MIN_VALUE, Integer.MIN_VALUE + 1, -65536, -17, -16, -11, -10, -1,
        65536, Integer.MAX_VALUE - 1, Integer.MAX_VALUE};
    private static final int[] TEN = {1, 2, 3, 4, 5, 6, 7, 8, 9, 1};

    public static void main(String[] args) {
        Check check = new Check();
        runAnswersEveryEnding(check);
        endingWithoutRun(check);
        endingOfTheLastRun(check);
        stepsWithoutRun(check);
        stepsFromOneToFourHundred(check);
        heightFromNoneToTen(check);
        pileFromLowestToTop(check);
        noSuchNumberOnThePile(check);
        numberOfAnEarlierPile(check);
        outputsFromNoneToSixteen(check);
        outputFromFirstToLast(check);
        noSuchNumberInTheOutput(check);
        numberOfAnEarlierOutput(check);
        whereWithoutRun(check);
        whereInEveryCellAndDirection(check);
        whereWhenPileIsFull(check);
        whereWhenOutputIsFull(check);
        whereWhenTired(check);
        whereWhenTiredAtTheEdge(check);
        lastRunStaysUntilTheNext(check);
        askingChangesNothing(check);
        check.finish();
    }

    private static void runAnswersEveryEnding(Check check) {
        check.of("A run. Answers how it ended.");
        check.due("run of an end", Programs.loaded(29).run(), BefungeTrace.ENDED);
        check.due("run of nothing", new BefungeTrace().run(), BefungeTrace.TIRED);
        check.due("run of pushes", Programs.loaded(1, 1, 1, 1, 1, 1, 1, 1).run(), BefungeTrace.FULL_PILE);
        BefungeTrace outputs = Programs.loaded(25, 25, 25, 25, 25, 25, 25, 25);
        check.due("run of outputs", outputs.run(), BefungeTrace.FULL_OUTPUT);
    }

    private static void endingWithoutRun(Check check) {
        check.of("or NO_RUN");
        BefungeTrace trace = new BefungeTrace();
        check.due("ending of a new object", trace.ending(), BefungeTrace.NO_RUN);
        trace.put(0, 0, 29);
        trace.putThree(1, 0, 29);
        trace.input(0, 29);
        trace.clear();
        trace.put(8, 0, 29);
        check.due("ending after calls without a run", trace.ending(), BefungeTrace.NO_RUN);
    }

    private static void endingOfTheLastRun(Check check) {
        check.of("How the last run ended");
        BefungeTrace trace = new BefungeTrace();
        int[][] rows = {{29}, {0}, {1, 1, 1, 1, 1, 1, 1, 1}, {25, 25, 25, 25, 25, 25, 25, 25}};
        // Each ending is followed by itself and by each other one.
        int[] order = {0, 0, 1, 1, 2, 2, 3, 3, 0, 2, 0, 3, 1, 0, 3, 2, 1, 3};
        for (int which : order) {
            trace.clear();
            Programs.load(trace, 0, 0, rows[which]);
            check.due("run", trace.run(), 1 + which);
            check.due("ending", trace.ending(), 1 + which);
        }
    }

    private static void stepsWithoutRun(Check check) {
        check.of("steps: 0 if there was none");
        BefungeTrace trace = new BefungeTrace();
        check.due("steps of a new object", trace.steps(), 0);
        Programs.load(trace, 0, 0, 1, 2, 29);
        check.due("steps of an object without a run", trace.steps(), 0);
    }

    private static void stepsFromOneToFourHundred(Check check) {
        check.of("How many steps the last run did");
        BefungeTrace trace = new BefungeTrace();
        check.dueRun("no end", trace, BefungeTrace.TIRED, 400, 0);
        for (int x = 7; x >= 0; x--) {
            trace.put(x, 0, 29);
            check.dueRun("an end in column " + x, trace, BefungeTrace.ENDED, x + 1, x);
        }
        trace.clear();
        check.dueRun("no end any more", trace, BefungeTrace.TIRED, 400, 0);
    }

    private static BefungeTrace leavesNumbers(int n) {
        BefungeTrace trace = new BefungeTrace();
        Programs.loadNumbersThenEnd(trace, n);
        trace.run();
        return trace;
    }

    private static void heightFromNoneToTen(Check check) {
        check.of("The number of numbers on the pile after the last run.");
        check.due("height of a new object", new BefungeTrace().height(), 0);
        for (int n = 0; n <= 10; n++) {
            check.due("height with " + n + " numbers", leavesNumbers(n).height(), n);
        }
        check.due("height with no room", State.endedSo(BefungeTrace.FULL_PILE).height(), 10);
    }

    private static void pileFromLowestToTop(Check check) {
        check.of("Number i of the pile after the last run (0 is the lowest)");
        for (int n = 1; n <= 10; n++) {
            BefungeTrace trace = leavesNumbers(n);
            for (int i = 0; i < n; i++) {
                check.due("pile(" + i + ") of " + n, trace.pile(i), TEN[i]);
            }
        }
    }

    private static void noSuchNumberOnThePile(Check check) {
        check.of("pile: 0 if there is none");
        for (int n = 0; n <= 10; n++) {
            BefungeTrace trace = leavesNumbers(n);
            for (int i = n; i <= 40; i++) {
                check.due("pile(" + i + ") of " + n, trace.pile(i), 0);
            }
            for (int i : FAR) {
                check.due("pile(" + i + ") of " + n, trace.pile(i), 0);
            }
        }
        // What was popped is there no more.
        BefungeTrace popped = Programs.loaded(5, 6, 7, 16, 16, 29);
        popped.run();
        check.duePile("two numbers popped", popped, 5);
        BefungeTrace emptied = Programs.loaded(5, 25, 29);
        emptied.run();
        check.duePile("the only number popped", emptied);
    }

    private static void numberOfAnEarlierPile(Check check) {
        check.of("pile: the last run, not one before it; 0 if there is none");
        for (int n = 0; n <= 10; n++) {
            BefungeTrace trace = State.endedSo(BefungeTrace.FULL_PILE);
            Programs.loadNumbersThenEnd(trace, n);
            trace.run();
            check.duePile(n + " numbers after a run that left ten", trace, Arrays.copyOf(TEN, n));
        }
    }

    private static void outputsFromNoneToSixteen(Check check) {
        check.of("The number of numbers in the output of the last run.");
        check.due("outputs of a new object", new BefungeTrace().outputs(), 0);
        for (int n = 0; n <= 16; n++) {
            BefungeTrace trace = Programs.outputsThenEnd(n);
            check.due("run of " + n + " outputs", trace.run(), BefungeTrace.ENDED);
            check.due("outputs of " + n, trace.outputs(), n);
        }
        check.due("outputs with no room", State.endedSo(BefungeTrace.FULL_OUTPUT).outputs(), 16);
    }

    private static void outputFromFirstToLast(Check check) {
        check.of("Number i of the output of the last run");
        BefungeTrace one = Programs.loaded(5, 25, 29);
        one.run();
        check.due("output(0) of one", one.output(0), 5);
        BefungeTrace full = Programs.loaded(1, 25, 2, 25, 3, 25, 4, 25);
        full.run();
        for (int i = 0; i < 16; i++) {
            check.due("output(" + i + ") of sixteen", full.output(i), 1 + i % 4);
        }
    }

    private static void noSuchNumberInTheOutput(Check check) {
        check.of("output: 0 if there is none");
        BefungeTrace one = Programs.loaded(5, 25, 29);
        one.run();
        BefungeTrace full = State.endedSo(BefungeTrace.FULL_OUTPUT);
        BefungeTrace none = new BefungeTrace();
        for (int i = 16; i <= 40; i++) {
            check.due("output(" + i + ") of none", none.output(i), 0);
            check.due("output(" + i + ") of one", one.output(i), 0);
            check.due("output(" + i + ") of sixteen", full.output(i), 0);
        }
        for (int i : FAR) {
            check.due("output(" + i + ") of none", none.output(i), 0);
            check.due("output(" + i + ") of one", one.output(i), 0);
            check.due("output(" + i + ") of sixteen", full.output(i), 0);
        }
        check.dueOutput("none", none);
        check.dueOutput("one", one, 5);
    }

    private static void numberOfAnEarlierOutput(Check check) {
        check.of("output: the last run, not one before it; 0 if there is none");
        for (int n = 0; n <= 16; n++) {
            BefungeTrace trace = State.endedSo(BefungeTrace.FULL_OUTPUT);
            Programs.loadOutputsThenEnd(trace, n);
            check.due("run of " + n + " outputs", trace.run(), BefungeTrace.ENDED);
            check.dueOutput(n + " zeros after a run that put out sixteen numbers", trace, new int[n]);
        }
    }

    private static void whereWithoutRun(Check check) {
        check.of("where: 0 if there was no run");
        BefungeTrace trace = new BefungeTrace();
        check.due("where of a new object", trace.where(), 0);
        Programs.load(trace, 0, 0, 19, 29);
        check.due("where of an object without a run", trace.where(), 0);
    }

    private static void whereInEveryCellAndDirection(Check check) {
        check.of("x + 8 y + 32 d, with (x, y) the place of the cell whose instruction ended the run");
        for (int direction = 0; direction < 4; direction++) {
            for (int cell = 1; cell < 32; cell++) {
                BefungeTrace trace = Programs.comesTo(Programs.away(cell, direction, -1), direction);
                Programs.putCell(trace, cell, 29);
                check.due("run that ends in cell " + cell, trace.run(), BefungeTrace.ENDED);
                check.due("where in direction " + direction, trace.where(), cell + 32 * direction);
            }
        }
    }

    /** The cell (0, 0), where every run begins, ends these on its eleventh push. */
    private static void whereWhenPileIsFull(Check check) {
        check.of("the cell whose instruction ended the run, if it ended FULL_PILE");
        check.dueRun("a push each round to the right", Programs.loaded(1), BefungeTrace.FULL_PILE, 81, 0);
        check.dueRun("a push each round to the left", Programs.loaded(1, 19), BefungeTrace.FULL_PILE, 75, 32);
        BefungeTrace down = Programs.loaded(1, 20);
        Programs.load(down, 0, 1, 20, 19);
        check.dueRun("a push each round down", down, BefungeTrace.FULL_PILE, 43, 64);
        BefungeTrace up = Programs.loaded(1, 20);
        Programs.load(up, 0, 1, 21, 19);
        check.dueRun("a push each round up", up, BefungeTrace.FULL_PILE, 41, 96);
        BefungeTrace last = Programs.comesTo(31, 3);
        last.put(7, 2, 1);
        check.due("run up column 7", last.run(), BefungeTrace.FULL_PILE);
        check.due("where up column 7", last.where(), 7 + 16 + 96);
    }

    private static void whereWhenOutputIsFull(Check check) {
        check.of("the cell whose instruction ended the run, if it ended FULL_OUTPUT");
        for (int direction = 0; direction < 4; direction++) {
            for (int cell = 1; cell < 32; cell++) {
                BefungeTrace trace = Programs.comesTo(Programs.away(cell, direction, -1), direction);
                Programs.putCell(trace, cell, 25);
                check.due("run that outputs in cell " + cell, trace.run(), BefungeTrace.FULL_OUTPUT);
                check.due("where in direction " + direction, trace.where(), cell + 32 * direction);
            }
        }
    }

    private static void whereWhenTired(Check check) {
        check.of("if it ended TIRED, of the cell whose instruction would come next");
        // Step x + 1 turns: the place has moved on 400 - x times from there.
        for (int x = 0; x < 8; x++) {
            for (int direction = 1; direction < 4; direction++) {
                BefungeTrace trace = new BefungeTrace();
                trace.put(x, 0, 18 + direction);
                int next = Programs.away(x, direction, 400 - x);
                String program = "tired in direction " + direction + " from column " + x;
                check.dueRun(program, trace, BefungeTrace.TIRED, 400, next + 32 * direction);
            }
        }
        // A cell that is passed over is no step, so each of these moves the place by two cells.
        BefungeTrace over = Programs.loaded(24, 0, 24, 0, 24, 0, 24, 0);
        check.dueRun("tired by code 24", over, BefungeTrace.TIRED, 400, 0);
        Programs.load(over, 0, 0, 0, 24, 0, 24, 0, 24, 0, 24);
        check.dueRun("tired by code 24 behind a cell", over, BefungeTrace.TIRED, 400, 7);
    }

    private static void whereWhenTiredAtTheEdge(Check check) {
        check.of("if it ended TIRED, of the cell whose instruction would come next, round the edge");
        check.dueRun("next is right of column 7", new BefungeTrace(), BefungeTrace.TIRED, 400, 0);
        BefungeTrace left = new BefungeTrace();
        left.put(3, 0, 20);
        left.put(3, 1, 19);
        check.dueRun("next is left of column 0", left, BefungeTrace.TIRED, 400, 7 + 8 + 32);
        BefungeTrace down = new BefungeTrace();
        down.put(4, 0, 20);
        check.dueRun("next is below row 3", down, BefungeTrace.TIRED, 400, 4 + 64);
        BefungeTrace up = new BefungeTrace();
        up.put(7, 0, 21);
        check.dueRun("next is above row 0", up, BefungeTrace.TIRED, 400, 7 + 24 + 96);
    }

    private static void lastRunStaysUntilTheNext(Check check) {
        check.of("the last run, whatever is called after it");
        for (int ending : State.ENDINGS) {
            BefungeTrace trace = State.endedSo(ending);
            trace.put(0, 0, 0);
            trace.putThree(1, 0, 0);
            trace.input(0, 9);
            trace.clear();
            State.dueAsMade(check, trace, ending);
        }
    }

    private static void askingChangesNothing(Check check) {
        check.of("pile and output: 0 if there is none, which changes nothing");
        for (int ending : State.ENDINGS) {
            BefungeTrace trace = State.endedSo(ending);
            Map<String, Integer> before = State.answers(trace);
            for (int i : FAR) {
                trace.pile(i);
                trace.output(i);
            }
            State.dueAnswers(check, "asking for what is not there", trace, before);
            State.dueInputs(check, "asking for what is not there", trace, State.INPUTS);
        }
    }
}
