/** Promise 6, and code 28 that reads the inputs. */
public final class InputTest {
    private static final int[] VALUES = {Integer.MIN_VALUE, Integer.MAX_VALUE, -1, 77};

    public static void main(String[] args) {
        Check check = new Check();
        inputsAreKeptAndRead(check);
        wrongInputsAreRefused(check);
        numberOfInputIsMasked(check);
        check.finish();
    }

    private static BefungeTrace readsAll() {
        BefungeTrace trace = Programs.loaded(0, 28, 1, 28, 2, 28, 3, 20);
        Programs.load(trace, 7, 1, 28);
        Programs.load(trace, 7, 2, 29);
        return trace;
    }

    private static void inputsAreKeptAndRead(Check check) {
        BefungeTrace trace = readsAll();
        for (int i = 0; i < 4; i++) {
            check.due("input(" + i + ", " + VALUES[i] + ")", trace.input(i, VALUES[i]), 0);
        }
        trace.run();
        check.duePile("all inputs", trace, VALUES);
        trace.run();
        check.duePile("all inputs in a second run", trace, VALUES);
        trace.input(2, 5);
        check.duePile("the pile after input", trace, VALUES);
        trace.run();
        check.duePile("input 2 anew", trace, VALUES[0], VALUES[1], 5, VALUES[3]);
    }

    private static void wrongInputsAreRefused(Check check) {
        BefungeTrace trace = readsAll();
        for (int i = 0; i < 4; i++) {
            trace.input(i, VALUES[i]);
        }
        for (int i : new int[] {-1, 4, 5, 7, -4, Integer.MIN_VALUE, Integer.MAX_VALUE}) {
            check.due("input(" + i + ", 9)", trace.input(i, 9), BefungeTrace.BAD_ARG);
        }
        trace.run();
        check.duePile("inputs after refused calls", trace, VALUES);
    }

    private static void numberOfInputIsMasked(Check check) {
        for (int a = 4; a <= 9; a++) {
            BefungeTrace trace = Programs.loaded(a, 28, 29);
            for (int i = 0; i < 4; i++) {
                trace.input(i, 100 + i);
            }
            trace.run();
            check.duePile("input numbered " + a, trace, 100 + a % 4);
        }
        BefungeTrace trace = Programs.loaded(1, 11, 28, 29);
        trace.input(3, 50);
        trace.run();
        check.duePile("input numbered -1", trace, 50);
    }
}
