/** Promise 1, and what the promises 8 to 15 say of an object without a run. */
public final class NewObjectTest {
    public static void main(String[] args) {
        Check check = new Check();
        answersOfNewObject(check);
        inputsAreZero(check);
        objectsAreApart(check);
        check.finish();
    }

    private static void answersOfNewObject(Check check) {
        BefungeTrace trace = new BefungeTrace();
        check.dueGrid("new", trace, new int[32]);
        check.due("digest", trace.digest(), 0);
        check.due("ending", trace.ending(), BefungeTrace.NO_RUN);
        check.due("steps", trace.steps(), 0);
        check.due("where", trace.where(), 0);
        check.duePile("new", trace);
        check.dueOutput("new", trace);
        for (int i : new int[] {Integer.MIN_VALUE, -1, 0, 9, 10, 15, 16, Integer.MAX_VALUE}) {
            check.due("pile(" + i + ")", trace.pile(i), 0);
            check.due("output(" + i + ")", trace.output(i), 0);
        }
    }

    private static void inputsAreZero(Check check) {
        BefungeTrace trace = Programs.loaded(28, 1, 28, 2, 28, 3, 28, 29);
        check.dueRun("inputs of a new object", trace, BefungeTrace.ENDED, 8, 7);
        check.duePile("inputs of a new object", trace, 0, 0, 0, 0);
    }

    private static void objectsAreApart(Check check) {
        BefungeTrace used = Programs.loaded(0, 28, 25, 5, 29);
        used.input(0, 6);
        used.run();
        BefungeTrace other = new BefungeTrace();
        check.due("digest of another object", other.digest(), 0);
        check.due("ending of another object", other.ending(), BefungeTrace.NO_RUN);
        check.duePile("another object", other);
        check.dueOutput("another object", other);
        check.duePile("the used object", used, 5);
        check.dueOutput("the used object", used, 6);
    }
}
