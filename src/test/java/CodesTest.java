/** Promise 7: what the codes do that neither steer the run nor reach outside its pile. */
public final class CodesTest {
    private static final int MIN = Integer.MIN_VALUE;
    private static final int MAX = Integer.MAX_VALUE;

    public static void main(String[] args) {
        Check check = new Check();
        numbersAndNothing(check);
        codesOfTwoNumbers(check);
        codesOfThePile(check);
        codesOnAnEmptyPile(check);
        codesOnOneNumber(check);
        check.finish();
    }

    private static void numbersAndNothing(Check check) {
        for (int n = 1; n <= 9; n++) {
            BefungeTrace trace = Programs.loaded(n, 29);
            check.dueRun("code " + n, trace, BefungeTrace.ENDED, 2, 1);
            check.duePile("code " + n, trace, n);
        }
        for (int code : new int[] {0, 30, 31}) {
            BefungeTrace trace = Programs.loaded(7, code, 29);
            check.dueRun("code " + code, trace, BefungeTrace.ENDED, 3, 2);
            check.duePile("code " + code, trace, 7);
            check.dueOutput("code " + code, trace);
            check.due("digest after code " + code, trace.digest(), 7 + 2 * code + 3 * 29);
        }
    }

    private static void duePileAfter(Check check, int code, int a, int b, int... want) {
        BefungeTrace trace = Programs.withPile(55, a, b, code, 29);
        String program = "pile 55 " + a + " " + b + " and code " + code;
        check.dueRun(program, trace, BefungeTrace.ENDED, Programs.STEPS_OF_WITH_PILE + 2, 9);
        check.duePile(program, trace, want);
        check.dueOutput(program, trace);
    }

    private static void codesOfTwoNumbers(Check check) {
        duePileAfter(check, 10, 8, 3, 55, 11);
        duePileAfter(check, 10, -8, 3, 55, -5);
        duePileAfter(check, 10, MAX, 1, 55, MIN);
        duePileAfter(check, 10, MIN, MIN, 55, 0);
        duePileAfter(check, 11, 8, 3, 55, 5);
        duePileAfter(check, 11, 3, 8, 55, -5);
        duePileAfter(check, 11, MIN, 1, 55, MAX);
        duePileAfter(check, 11, 0, MIN, 55, MIN);
        duePileAfter(check, 12, 8, 3, 55, 24);
        duePileAfter(check, 12, -8, 3, 55, -24);
        duePileAfter(check, 12, MIN, -1, 55, MIN);
        duePileAfter(check, 12, 65536, 65536, 55, 0);
        duePileAfter(check, 12, MAX, MAX, 55, 1);
        duePileAfter(check, 13, 8, 3, 55, 1);
        duePileAfter(check, 13, 3, 8, 55, 0);
        duePileAfter(check, 13, 4, 4, 55, 0);
        duePileAfter(check, 13, -1, -2, 55, 1);
        // A comparison by the sign of a - b goes wrong on these.
        duePileAfter(check, 13, MAX, MIN, 55, 1);
        duePileAfter(check, 13, MIN, MAX, 55, 0);
        duePileAfter(check, 13, MIN, 1, 55, 0);
    }

    private static void codesOfThePile(Check check) {
        duePileAfter(check, 14, 8, 3, 55, 8, 3, 3);
        duePileAfter(check, 14, 8, MIN, 55, 8, MIN, MIN);
        duePileAfter(check, 15, 8, 3, 55, 3, 8);
        duePileAfter(check, 15, MIN, MAX, 55, MAX, MIN);
        duePileAfter(check, 16, 8, 3, 55, 8);
        duePileAfter(check, 17, 8, 0, 55, 8, 1);
        duePileAfter(check, 17, 8, 1, 55, 8, 0);
        duePileAfter(check, 17, 8, -1, 55, 8, 0);
        duePileAfter(check, 17, 8, MIN, 55, 8, 0);
    }

    private static void dueAlone(Check check, int code, int... want) {
        BefungeTrace trace = Programs.loaded(code, 29);
        check.dueRun("code " + code + " alone", trace, BefungeTrace.ENDED, 2, 1);
        check.duePile("code " + code + " alone", trace, want);
    }

    private static void codesOnAnEmptyPile(Check check) {
        dueAlone(check, 10, 0);
        dueAlone(check, 11, 0);
        dueAlone(check, 12, 0);
        dueAlone(check, 13, 0);
        dueAlone(check, 14, 0, 0);
        dueAlone(check, 15, 0, 0);
        dueAlone(check, 16);
        dueAlone(check, 17, 1);
        dueAlone(check, 27, 27);
        dueAlone(check, 28, 0);
        BefungeTrace dropped = Programs.loaded(16, 16, 16, 5, 29);
        check.dueRun("drops before a number", dropped, BefungeTrace.ENDED, 5, 4);
        check.duePile("drops before a number", dropped, 5);
    }

    private static void dueAfterSix(Check check, int code, int... want) {
        BefungeTrace trace = Programs.loaded(6, code, 29);
        check.dueRun("6 and code " + code, trace, BefungeTrace.ENDED, 3, 2);
        check.duePile("6 and code " + code, trace, want);
    }

    private static void codesOnOneNumber(Check check) {
        dueAfterSix(check, 10, 6);
        dueAfterSix(check, 11, -6);
        dueAfterSix(check, 12, 0);
        dueAfterSix(check, 13, 0);
        dueAfterSix(check, 14, 6, 6);
        dueAfterSix(check, 15, 6, 0);
        dueAfterSix(check, 16);
        dueAfterSix(check, 17, 0);
        BefungeTrace negative = Programs.loaded(28, 13, 29);
        negative.input(0, -3);
        check.dueRun("-3 and code 13", negative, BefungeTrace.ENDED, 3, 2);
        check.duePile("-3 and code 13", negative, 1);
    }
}
