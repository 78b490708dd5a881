/** Promises 7 to 11 and 14: how runs end, and what the last one leaves behind. */
public final class RunEndTest {
    public static void main(String[] args) {
        Check check = new Check();
        endsAtOnce(check);
        tiresOnAnEmptyGrid(check);
        tiresOnTheWay(check);
        lastStepMayEndTheRun(check);
        numberOnFullPile(check);
        twiceOnFullPile(check);
        otherCodesOnFullPile(check);
        everyRunBeginsAnew(check);
        laterCallsLeaveTheLastRun(check);
        check.finish();
    }

    private static void endsAtOnce(Check check) {
        BefungeTrace trace = Programs.loaded(29);
        check.dueRun("an end alone", trace, BefungeTrace.ENDED, 1, 0);
        check.duePile("an end alone", trace);
        check.dueOutput("an end alone", trace);
    }

    private static void tiresOnAnEmptyGrid(Check check) {
        BefungeTrace trace = new BefungeTrace();
        check.dueRun("an empty grid", trace, BefungeTrace.TIRED, 400, 0);
        check.duePile("an empty grid", trace);
        check.dueOutput("an empty grid", trace);
    }

    private static void tiresOnTheWay(Check check) {
        for (int direction = 1; direction < 4; direction++) {
            BefungeTrace trace = Programs.loaded(0, 0, 0, 18 + direction);
            // The turn is step 4: from there on, the place moves 397 times.
            int next = Programs.away(3, direction, 397);
            check.dueRun("tired in direction " + direction, trace, BefungeTrace.TIRED, 400, next + 32 * direction);
        }
    }

    /** Comes to (6, 3), moving right, as its step 10 n; 40 times round makes that step 400. */
    private static BefungeTrace countsDown(int n) {
        BefungeTrace trace = Programs.loaded(28, 20, 0, 0, 0, 19);
        Programs.load(trace, 1, 1, 18, 1, 11, 14, 23);
        trace.put(5, 3, 18);
        trace.input(0, n);
        return trace;
    }

    private static void lastStepMayEndTheRun(Check check) {
        BefungeTrace before = countsDown(39);
        before.put(6, 3, 29);
        check.dueRun("an end at step 390", before, BefungeTrace.ENDED, 390, 30);

        BefungeTrace just = countsDown(40);
        just.put(6, 3, 29);
        check.dueRun("an end at step 400", just, BefungeTrace.ENDED, 400, 30);
        check.duePile("an end at step 400", just, 0);

        BefungeTrace late = countsDown(40);
        late.put(6, 3, 8);
        late.put(7, 3, 29);
        check.dueRun("an end at step 401", late, BefungeTrace.TIRED, 400, 31);
        check.duePile("an end at step 401", late, 0, 8);

        BefungeTrace turned = countsDown(40);
        turned.put(6, 3, 21);
        check.dueRun("a turn at step 400", turned, BefungeTrace.TIRED, 400, 22 + 96);

        BefungeTrace passed = countsDown(40);
        passed.put(6, 3, 24);
        check.dueRun("code 24 at step 400", passed, BefungeTrace.TIRED, 400, 24);
    }

    private static void numberOnFullPile(Check check) {
        BefungeTrace just = Programs.fullPile(29);
        check.dueRun("ten numbers", just, BefungeTrace.ENDED, Programs.STEPS_OF_FULL_PILE + 1, 11);
        check.duePile("ten numbers", just, 1, 2, 3, 4, 5, 6, 7, 8, 9, 1);
        check.due("pile(MIN_VALUE)", just.pile(Integer.MIN_VALUE), 0);
        check.due("pile(MAX_VALUE)", just.pile(Integer.MAX_VALUE), 0);
        for (int n = 1; n <= 9; n++) {
            BefungeTrace trace = Programs.fullPile(n, 29);
            String program = "ten numbers and " + n;
            check.dueRun(program, trace, BefungeTrace.FULL_PILE, Programs.STEPS_OF_FULL_PILE + 1, 11);
            check.duePile(program, trace, 1, 2, 3, 4, 5, 6, 7, 8, 9, 1);
        }
    }

    private static void twiceOnFullPile(Check check) {
        BefungeTrace full = Programs.fullPile(14, 29);
        check.dueRun("code 14 on ten", full, BefungeTrace.FULL_PILE, Programs.STEPS_OF_FULL_PILE + 1, 11);
        check.duePile("code 14 on ten", full, 1, 2, 3, 4, 5, 6, 7, 8, 9, 1);

        BefungeTrace nine = Programs.fullPile(16, 14, 29);
        check.dueRun("code 14 on nine", nine, BefungeTrace.ENDED, Programs.STEPS_OF_FULL_PILE + 3, 13);
        check.duePile("code 14 on nine", nine, 1, 2, 3, 4, 5, 6, 7, 8, 9, 9);
    }

    private static void dueOnFull(Check check, int code, int... want) {
        BefungeTrace trace = Programs.fullPile(code, 29);
        trace.input(1, 70);
        String program = "code " + code + " on ten";
        check.dueRun(program, trace, BefungeTrace.ENDED, Programs.STEPS_OF_FULL_PILE + 2, 12);
        check.duePile(program, trace, want);
    }

    /** What is popped makes room for what is pushed. */
    private static void otherCodesOnFullPile(Check check) {
        dueOnFull(check, 0, 1, 2, 3, 4, 5, 6, 7, 8, 9, 1);
        dueOnFull(check, 10, 1, 2, 3, 4, 5, 6, 7, 8, 10);
        dueOnFull(check, 11, 1, 2, 3, 4, 5, 6, 7, 8, 8);
        dueOnFull(check, 12, 1, 2, 3, 4, 5, 6, 7, 8, 9);
        dueOnFull(check, 13, 1, 2, 3, 4, 5, 6, 7, 8, 1);
        dueOnFull(check, 15, 1, 2, 3, 4, 5, 6, 7, 8, 1, 9);
        dueOnFull(check, 16, 1, 2, 3, 4, 5, 6, 7, 8, 9);
        dueOnFull(check, 17, 1, 2, 3, 4, 5, 6, 7, 8, 9, 0);
        dueOnFull(check, 25, 1, 2, 3, 4, 5, 6, 7, 8, 9);
        dueOnFull(check, 26, 1, 2, 3, 4, 5, 6, 7);
        dueOnFull(check, 27, 1, 2, 3, 4, 5, 6, 7, 8, 9);
        dueOnFull(check, 28, 1, 2, 3, 4, 5, 6, 7, 8, 9, 70);
    }

    private static void everyRunBeginsAnew(Check check) {
        BefungeTrace trace = Programs.fullPile(25, 25, 21);
        trace.put(5, 0, 21);
        trace.put(5, 3, 29);
        check.dueRun("a run upward", trace, BefungeTrace.ENDED, 7, 5 + 24 + 96);
        check.duePile("a run upward", trace, 1, 2, 3, 4, 5);
        trace.clear();
        Programs.load(trace, 0, 0, 7, 25, 0, 29);
        check.dueRun("a second run", trace, BefungeTrace.ENDED, 4, 3);
        check.duePile("a second run", trace);
        check.dueOutput("a second run", trace, 7);
        check.dueRun("a third run", trace, BefungeTrace.ENDED, 4, 3);
        check.dueOutput("a third run", trace, 7);
        trace.put(3, 0, 0);
        trace.put(0, 0, 20);
        check.dueRun("a fourth run", trace, BefungeTrace.TIRED, 400, 64);
        check.dueOutput("a fourth run", trace);
    }

    private static void laterCallsLeaveTheLastRun(Check check) {
        BefungeTrace trace = Programs.loaded(3, 4, 25, 29);
        trace.run();
        trace.put(0, 0, 9);
        trace.putThree(1, 0, 9);
        trace.input(0, 9);
        trace.put(8, 0, 9);
        trace.put(0, 0, 32);
        trace.putThree(0, 4, 9);
        trace.input(4, 9);
        trace.get(-1, 0);
        trace.digest();
        trace.clear();
        check.dueLastRun("after later calls", trace, BefungeTrace.ENDED, 4, 3);
        check.duePile("after later calls", trace, 3);
        check.dueOutput("after later calls", trace, 4);
    }
}
