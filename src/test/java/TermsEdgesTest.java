import java.util.Map;

/** The boundary cases that the section "Terms" names, but for the table of codes (see CodesEdgesTest). */
public final class TermsEdgesTest {
    private static final int MIN = Integer.MIN_VALUE;
    private static final int MAX = Integer.MAX_VALUE;

    public static void main(String[] args) {
        Check check = new Check();
        runReachesEveryCell(check);
        cellsHoldTheLeastAndTheGreatestCode(check);
        runBeginsAnew(check);
        gridIsAsItWasLeft(check);
        tiredAfterFourHundredSteps(check);
        fourHundredthStepMayEndTheRun(check);
        roundTheEdgesOfEveryRow(check);
        roundTheEdgesOfEveryColumn(check);
        runThatEndedDoesNotMove(check);
        popFromEmptyPile(check);
        popFromEmptyPileChangesNothing(check);
        popFromEmptiedPile(check);
        pushOntoNine(check);
        pushOntoTen(check);
        popsMakeRoomOnTen(check);
        arithmeticWraps(check);
        stepThatEndsCounts(check);
        poppedByTheLastStep(check);
        noCallThrows(check);
        lastOfAllCalls(check);
        check.finish();
    }

    private static void runReachesEveryCell(Check check) {
        check.of("8 columns x = 0 to 7 and 4 rows y = 0 to 3");
        for (int cell = 0; cell < 32; cell++) {
            int x = cell % 8;
            int y = cell / 8;
            BefungeTrace trace = new BefungeTrace();
            trace.put(x, 0, 20);
            trace.put(x, y, 29);
            int where = cell + (y == 0 ? 0 : 64);
            check.dueRun("an end in cell " + cell, trace, BefungeTrace.ENDED, x + y + 1, where);
        }
    }

    private static void cellsHoldTheLeastAndTheGreatestCode(Check check) {
        check.of("each cell holds a number 0 to 31");
        BefungeTrace trace = new BefungeTrace();
        int[] want = new int[32];
        for (int code : new int[] {31, 0, 1, 30}) {
            for (int cell = 0; cell < 32; cell++) {
                trace.put(cell % 8, cell / 8, code);
                want[cell] = code;
            }
            check.dueGrid("a grid full of " + code, trace, want);
        }
    }

    private static void runBeginsAnew(Check check) {
        check.of("It begins at (0, 0) with direction right, an empty pile and an empty output");
        for (int ending : State.ENDINGS) {
            BefungeTrace trace = State.endedSo(ending);
            State.dueAsMade(check, trace, ending);
            Programs.load(trace, 0, 0, 16, 29);
            String program = "a run after ending " + ending;
            check.dueRun(program, trace, BefungeTrace.ENDED, 2, 1);
            check.duePile(program, trace);
            check.dueOutput(program, trace);
        }
    }

    private static void gridIsAsItWasLeft(Check check) {
        check.of("the grid is as it was left");
        for (int ending : State.ENDINGS) {
            BefungeTrace trace = State.endedSo(ending);
            Map<String, Integer> before = State.answers(trace);
            trace.run();
            check.due("digest after another run", trace.digest(), before.get("digest()"));
            for (int cell = 0; cell < 32; cell++) {
                String call = "get(" + cell % 8 + ", " + cell / 8 + ")";
                check.due(call + " after another run", trace.get(cell % 8, cell / 8), before.get(call));
            }
        }
        // Adds 1 to the cell (0, 1) in each run; 31 is followed by 0.
        BefungeTrace counts = Programs.loaded(1, 27, 1, 10, 8, 1, 26, 29);
        for (int n = 1; n <= 33; n++) {
            check.dueRun("run " + n + " that counts", counts, BefungeTrace.ENDED, 8, 7);
            check.due("the cell (0, 1) after " + n + " runs", counts.get(0, 1), n % 32);
        }
    }

    /** Comes to (6, 3), moving right in row 3 with the pile 0, as its step 10 n. */
    private static BefungeTrace tenStepsEach(int n, int... row) {
        BefungeTrace trace = Programs.loaded(28, 20, 0, 0, 0, 19);
        Programs.load(trace, 1, 1, 18, 1, 11, 14, 23);
        trace.input(0, n);
        // From here on, the row is met in the order (6, 3), (7, 3), (0, 3) and so on; (5, 3) comes last.
        for (int i = 0; i < row.length; i++) {
            trace.put((6 + i) % 8, 3, row[i]);
        }
        trace.put(5, 3, 18);
        return trace;
    }

    private static void tiredAfterFourHundredSteps(Check check) {
        check.of("if 400 steps were done the run ends TIRED");
        check.dueRun("an empty grid", new BefungeTrace(), BefungeTrace.TIRED, 400, 0);

        BefungeTrace end = tenStepsEach(40, 0, 29);
        check.dueRun("an end at step 401", end, BefungeTrace.TIRED, 400, 7 + 24);

        BefungeTrace pile = tenStepsEach(39, 1, 2, 3, 4, 5, 6, 0);
        check.dueRun("an eleventh push at step 401", pile, BefungeTrace.TIRED, 400, 1 + 24);
        check.duePile("an eleventh push at step 401", pile, 0, 1, 2, 3, 4, 5, 6, 1, 2, 3);

        BefungeTrace output = tenStepsEach(38, 0, 25, 25, 25, 25, 25, 25);
        check.dueRun("a seventeenth output at step 401", output, BefungeTrace.TIRED, 400, 3 + 24);
        check.dueOutput("a seventeenth output at step 401", output, new int[16]);
    }

    private static void fourHundredthStepMayEndTheRun(Check check) {
        check.of("else the instruction of the cell at the present place is worked off (a step)");
        BefungeTrace early = tenStepsEach(40);
        early.put(5, 3, 29);
        check.dueRun("an end at step 399", early, BefungeTrace.ENDED, 399, 5 + 24 + 64);

        BefungeTrace end = tenStepsEach(40, 29);
        check.dueRun("an end at step 400", end, BefungeTrace.ENDED, 400, 6 + 24);

        BefungeTrace pile = tenStepsEach(39, 1, 2, 3, 4, 5, 6, 7);
        check.dueRun("an eleventh push at step 400", pile, BefungeTrace.FULL_PILE, 400, 24);
        check.duePile("an eleventh push at step 400", pile, 0, 1, 2, 3, 4, 5, 6, 7, 1, 2);

        BefungeTrace output = tenStepsEach(38, 25, 25, 25, 25, 25, 25, 0);
        check.dueRun("a seventeenth output at step 400", output, BefungeTrace.FULL_OUTPUT, 400, 2 + 24);
        check.dueOutput("a seventeenth output at step 400", output, new int[16]);

        BefungeTrace push = tenStepsEach(40, 8, 9);
        check.dueRun("a push at step 400", push, BefungeTrace.TIRED, 400, 7 + 24);
        check.duePile("a push at step 400", push, 0, 8);

        // Code 26 on the pile 0 empties the cell (0, 0).
        BefungeTrace write = tenStepsEach(40, 26);
        check.dueRun("a write at step 400", write, BefungeTrace.TIRED, 400, 7 + 24);
        check.due("get(0, 0) after a write at step 400", write.get(0, 0), 0);
        BefungeTrace late = tenStepsEach(40, 0, 26);
        check.dueRun("a write at step 401", late, BefungeTrace.TIRED, 400, 7 + 24);
        check.due("get(0, 0) after a write at step 401", late.get(0, 0), 28);
    }

    private static void roundTheEdgesOfEveryRow(Check check) {
        check.of("round the edge to the other side of the row");
        for (int y = 0; y < 4; y++) {
            BefungeTrace trace = Programs.loaded(20);
            Programs.load(trace, 0, y, 18, 1, 2, 3, 4, 5, 6, 7);
            check.dueRun("right in row " + y, trace, BefungeTrace.FULL_PILE, y + 13, 4 + 8 * y);
            check.duePile("right in row " + y, trace, 1, 2, 3, 4, 5, 6, 7, 1, 2, 3);
            trace.put(0, y, 19);
            check.dueRun("left in row " + y, trace, BefungeTrace.FULL_PILE, y + 13, 4 + 8 * y + 32);
            check.duePile("left in row " + y, trace, 7, 6, 5, 4, 3, 2, 1, 7, 6, 5);
        }
    }

    private static void roundTheEdgesOfEveryColumn(Check check) {
        check.of("round the edge to the other side of the column");
        for (int x = 0; x < 8; x++) {
            BefungeTrace trace = new BefungeTrace();
            for (int y = 1; y < 4; y++) {
                trace.put(x, y, y);
            }
            trace.put(x, 0, 20);
            check.dueRun("down in column " + x, trace, BefungeTrace.FULL_PILE, x + 15, x + 16 + 64);
            check.duePile("down in column " + x, trace, 1, 2, 3, 1, 2, 3, 1, 2, 3, 1);
            trace.put(x, 0, 21);
            check.dueRun("up in column " + x, trace, BefungeTrace.FULL_PILE, x + 15, x + 16 + 96);
            check.duePile("up in column " + x, trace, 3, 2, 1, 3, 2, 1, 3, 2, 1, 3);
        }
    }

    private static void runThatEndedDoesNotMove(Check check) {
        check.of("if the run has not ended, the place moves one cell in the present direction");
        for (int direction = 0; direction < 4; direction++) {
            BefungeTrace trace = Programs.loaded(18 + direction);
            int end = Programs.away(0, direction, 1);
            Programs.putCell(trace, end, 29);
            check.dueRun("an end one cell on", trace, BefungeTrace.ENDED, 2, end + 32 * direction);
        }
        check.dueRun("an end at the right edge", Programs.loaded(0, 0, 0, 0, 0, 0, 0, 29), BefungeTrace.ENDED, 8, 7);
    }

    private static void dueAlone(Check check, int code, int... pile) {
        BefungeTrace trace = Programs.loaded(code, 29);
        trace.input(0, 60);
        String program = "code " + code + " on an empty pile";
        check.dueRun(program, trace, BefungeTrace.ENDED, 2, 1);
        check.duePile(program, trace, pile);
    }

    private static void dueAfterSix(Check check, int code, int... pile) {
        BefungeTrace trace = Programs.loaded(6, code, 29);
        String program = "code " + code + " on the pile 6";
        check.dueRun(program, trace, BefungeTrace.ENDED, 3, 2);
        check.duePile(program, trace, pile);
    }

    private static void popFromEmptyPile(Check check) {
        check.of("it is 0 if the pile is empty");
        dueAlone(check, 10, 0);
        dueAlone(check, 11, 0);
        dueAlone(check, 12, 0);
        dueAlone(check, 13, 0);
        dueAlone(check, 14, 0, 0);
        dueAlone(check, 15, 0, 0);
        dueAlone(check, 16);
        dueAlone(check, 17, 1);
        dueAlone(check, 22);
        dueAlone(check, 25);
        dueAlone(check, 27, 27);
        dueAlone(check, 28, 60);
        dueAfterSix(check, 10, 6);
        dueAfterSix(check, 11, -6);
        dueAfterSix(check, 12, 0);
        dueAfterSix(check, 13, 0);
        dueAfterSix(check, 15, 6, 0);
        popsZeroOutside(check);
    }

    /** The codes whose zeros are seen elsewhere than on the pile. */
    private static void popsZeroOutside(Check check) {
        BefungeTrace down = Programs.loaded(23);
        down.put(0, 1, 29);
        down.put(0, 3, 29);
        check.dueRun("code 23 on an empty pile", down, BefungeTrace.ENDED, 2, 8 + 64);

        BefungeTrace output = Programs.loaded(25, 29);
        output.run();
        check.dueOutput("code 25 on an empty pile", output, 0);

        BefungeTrace none = Programs.loaded(26, 29);
        none.run();
        check.due("get(0, 0) after code 26 on an empty pile", none.get(0, 0), 0);

        BefungeTrace one = Programs.loaded(2, 26, 29);
        one.put(0, 2, 7);
        one.run();
        check.due("get(0, 2) after code 26 on the pile 2", one.get(0, 2), 0);

        BefungeTrace two = Programs.loaded(5, 2, 26, 29);
        two.put(5, 2, 7);
        two.run();
        check.due("get(5, 2) after code 26 on the pile 5 2", two.get(5, 2), 0);

        BefungeTrace read = Programs.loaded(2, 27, 29);
        read.put(0, 2, 7);
        read.run();
        check.duePile("code 27 on the pile 2", read, 7);
    }

    private static void popFromEmptyPileChangesNothing(Check check) {
        check.of("(this changes nothing)");
        check.dueRun("pops alone", Programs.loaded(16, 16, 16, 29), BefungeTrace.ENDED, 4, 3);
        BefungeTrace pops = Programs.loaded(16, 16, 16, 5, 29);
        check.dueRun("three pops and a push", pops, BefungeTrace.ENDED, 5, 4);
        check.duePile("three pops and a push", pops, 5);

        // As many pushes as ever find room after the pops.
        BefungeTrace full = Programs.loaded(16, 26, 20);
        Programs.load(full, 0, 1, 9, 8, 19, 2, 3, 4, 5, 6);
        check.dueRun("pops and eleven pushes", full, BefungeTrace.FULL_PILE, 16, 6 + 8 + 32);
        check.duePile("pops and eleven pushes", full, 8, 9, 6, 5, 4, 3, 2, 8, 9, 6);
    }

    private static void popFromEmptiedPile(Check check) {
        check.of("the top number is taken off the pile");
        BefungeTrace twice = Programs.loaded(5, 16, 14, 29);
        check.dueRun("code 14 on an emptied pile", twice, BefungeTrace.ENDED, 4, 3);
        check.duePile("code 14 on an emptied pile", twice, 0, 0);

        BefungeTrace output = Programs.loaded(5, 6, 25, 25, 25, 29);
        check.dueRun("three outputs of two numbers", output, BefungeTrace.ENDED, 6, 5);
        check.dueOutput("three outputs of two numbers", output, 6, 5, 0);
        check.duePile("three outputs of two numbers", output);

        // The number that an earlier run left on the pile is not there to be popped.
        BefungeTrace later = Programs.loaded(5, 29);
        later.run();
        Programs.load(later, 0, 0, 25, 29);
        later.run();
        check.dueOutput("an output after a run that left 5", later, 0);
    }

    /** The pile 1 2 3 4 5 6 7 8 9, then the code. */
    private static BefungeTrace onNine(int code) {
        return Programs.fullPile(16, code, 29);
    }

    private static void pushOntoNine(Check check) {
        check.of("the number is put on the pile");
        for (int n = 1; n <= 9; n++) {
            BefungeTrace trace = onNine(n);
            String program = "nine numbers and a push of " + n;
            check.dueRun(program, trace, BefungeTrace.ENDED, Programs.STEPS_OF_FULL_PILE + 3, 13);
            check.duePile(program, trace, 1, 2, 3, 4, 5, 6, 7, 8, 9, n);
        }
        BefungeTrace twice = onNine(14);
        check.dueRun("nine numbers and code 14", twice, BefungeTrace.ENDED, Programs.STEPS_OF_FULL_PILE + 3, 13);
        check.duePile("nine numbers and code 14", twice, 1, 2, 3, 4, 5, 6, 7, 8, 9, 9);
    }

    private static void pushOntoTen(Check check) {
        check.of("if the pile has 10 numbers, the run ends FULL_PILE instead");
        for (int code : new int[] {1, 2, 3, 4, 5, 6, 7, 8, 9, 14}) {
            BefungeTrace trace = Programs.fullPile(code, 29);
            String program = "ten numbers and code " + code;
            check.dueRun(program, trace, BefungeTrace.FULL_PILE, Programs.STEPS_OF_FULL_PILE + 1, 11);
            check.duePile(program, trace, 1, 2, 3, 4, 5, 6, 7, 8, 9, 1);
            check.dueOutput(program, trace);
        }
    }

    private static void dueOnTen(Check check, int code, int... pile) {
        BefungeTrace trace = Programs.fullPile(code, 29);
        trace.input(1, 70);
        String program = "ten numbers and code " + code;
        check.dueRun(program, trace, BefungeTrace.ENDED, Programs.STEPS_OF_FULL_PILE + 2, 12);
        check.duePile(program, trace, pile);
    }

    private static void popsMakeRoomOnTen(Check check) {
        check.of("a pile of at most 10 numbers");
        dueOnTen(check, 0, 1, 2, 3, 4, 5, 6, 7, 8, 9, 1);
        dueOnTen(check, 10, 1, 2, 3, 4, 5, 6, 7, 8, 10);
        dueOnTen(check, 11, 1, 2, 3, 4, 5, 6, 7, 8, 8);
        dueOnTen(check, 12, 1, 2, 3, 4, 5, 6, 7, 8, 9);
        dueOnTen(check, 13, 1, 2, 3, 4, 5, 6, 7, 8, 1);
        dueOnTen(check, 15, 1, 2, 3, 4, 5, 6, 7, 8, 1, 9);
        dueOnTen(check, 17, 1, 2, 3, 4, 5, 6, 7, 8, 9, 0);
        dueOnTen(check, 27, 1, 2, 3, 4, 5, 6, 7, 8, 9);
        dueOnTen(check, 28, 1, 2, 3, 4, 5, 6, 7, 8, 9, 70);
    }

    private static void dueNumber(Check check, int a, int code, int b, int want) {
        BefungeTrace trace = Programs.withPile(7, a, b, code, 29);
        String program = a + " and " + b + " with code " + code;
        check.dueRun(program, trace, BefungeTrace.ENDED, Programs.STEPS_OF_WITH_PILE + 2, 9);
        check.duePile(program, trace, 7, want);
    }

    private static void arithmeticWraps(Check check) {
        check.of("All arithmetic is that of Java ints (it wraps).");
        dueNumber(check, MAX, 10, 1, MIN);
        dueNumber(check, MIN, 10, -1, MAX);
        dueNumber(check, MAX, 10, MAX, -2);
        dueNumber(check, MIN, 10, MIN, 0);
        dueNumber(check, MAX, 10, MIN, -1);
        dueNumber(check, MIN, 11, 1, MAX);
        dueNumber(check, MAX, 11, -1, MIN);
        dueNumber(check, 0, 11, MIN, MIN);
        dueNumber(check, MIN, 11, MAX, 1);
        dueNumber(check, MAX, 11, MIN, -1);
        dueNumber(check, MIN, 12, -1, MIN);
        dueNumber(check, MAX, 12, MAX, 1);
        dueNumber(check, MAX, 12, 2, -2);
        dueNumber(check, MIN, 12, 2, 0);
        dueNumber(check, 65536, 12, 65536, 0);
        dueNumber(check, 65536, 12, 32768, MIN);
        dueNumber(check, 46341, 12, 46341, -2147479015);
    }

    private static void stepThatEndsCounts(Check check) {
        check.of("A step that ends the run counts");
        check.dueRun("an end alone", Programs.loaded(29), BefungeTrace.ENDED, 1, 0);
        check.dueRun("an end second", Programs.loaded(0, 29), BefungeTrace.ENDED, 2, 1);
        check.dueRun("eight pushes each round", Programs.loaded(1, 1, 1, 1, 1, 1, 1, 1), BefungeTrace.FULL_PILE, 11, 2);
        BefungeTrace outputs = Programs.loaded(25, 25, 25, 25, 25, 25, 25, 25);
        check.dueRun("eight outputs each round", outputs, BefungeTrace.FULL_OUTPUT, 17, 0);
    }

    private static void poppedByTheLastStep(Check check) {
        check.of("the numbers that it popped before it ended the run are off the pile");
        BefungeTrace one = Programs.loaded(1, 25, 2, 25, 3, 25, 4, 25);
        check.dueRun("output of the only number", one, BefungeTrace.FULL_OUTPUT, 34, 1);
        check.duePile("output of the only number", one);
        check.dueOutput("output of the only number", one, 1, 2, 3, 4, 1, 2, 3, 4, 1, 2, 3, 4, 1, 2, 3, 4);

        BefungeTrace two = Programs.loaded(1, 2, 25, 25, 3, 4, 25, 25);
        check.dueRun("output of the upper number", two, BefungeTrace.FULL_OUTPUT, 35, 2);
        check.duePile("output of the upper number", two, 1);

        BefungeTrace none = Programs.loaded(25, 25, 25, 25, 25, 25, 25, 25);
        check.dueRun("output of no number", none, BefungeTrace.FULL_OUTPUT, 17, 0);
        check.duePile("output of no number", none);

        // The first of the two pushes of code 14 finds the room that its pop made; the second ends the run.
        BefungeTrace twice = Programs.fullPile(14);
        check.dueRun("code 14 on ten", twice, BefungeTrace.FULL_PILE, Programs.STEPS_OF_FULL_PILE + 1, 11);
        check.duePile("code 14 on ten", twice, 1, 2, 3, 4, 5, 6, 7, 8, 9, 1);
    }

    private static void noCallThrows(Check check) {
        check.of("No call ever throws.");
        int[] numbers = {MIN, MIN + 1, -65536, -33, -1, 0, 3, 4, 7, 8, 10, 16, 31, 32, 32767, 32768, MAX - 1, MAX};
        for (int ending : State.ENDINGS) {
            for (int first : numbers) {
                BefungeTrace trace = State.endedSo(ending);
                for (int second : numbers) {
                    trace.put(first, second, 1);
                    trace.put(1, first, second);
                    trace.putThree(first, second, 1);
                    trace.putThree(second, 1, first);
                    trace.get(first, second);
                    trace.input(first, second);
                }
                trace.pile(first);
                trace.output(first);
                int ended = trace.run();
                check.due("a run that ended one of four ways", ended >= 1 && ended <= 4 ? 1 : 0, 1);
            }
        }
        everyCodeOnExtremes(check, numbers);
    }

    private static void everyCodeOnExtremes(Check check, int[] numbers) {
        for (int code = 0; code < 32; code++) {
            for (int number : numbers) {
                BefungeTrace trace = Programs.withPile(number, number, number, code, code, code, code, 29);
                int ended = trace.run();
                check.due("code " + code + " on " + number, ended >= 1 && ended <= 4 ? 1 : 0, 1);
            }
        }
    }

    private static void lastOfAllCalls(Check check) {
        check.of("An object is used for at most 512 calls after it has been made");
        BefungeTrace trace = new BefungeTrace();
        for (int call = 1; call <= 510; call += 2) {
            check.due("call " + call + ": put", trace.put(7, 3, (call / 2 + 1) % 32), call / 2 % 32);
            check.due("call " + (call + 1) + ": run", trace.run(), BefungeTrace.TIRED);
        }
        check.due("call 511: steps", trace.steps(), 400);
        check.due("call 512: digest", trace.digest(), 32 * (255 % 32));
    }
}
