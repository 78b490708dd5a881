/** Promises 2 to 5 and 15: put, putThree, get, clear and digest. */
public final class GridTest {
    private static final int[] BAD_X = {-1, 8, 9, -8, 256, Integer.MIN_VALUE, Integer.MAX_VALUE};
    private static final int[] BAD_Y = {-1, 4, 5, 7, -4, 256, Integer.MIN_VALUE, Integer.MAX_VALUE};
    private static final int[] BAD_CODES = {-1, 32, 33, 64, -32, Integer.MIN_VALUE, Integer.MAX_VALUE};
    private static final int[] BAD_PACKED = {-1, 32768, 65536, -32768, Integer.MIN_VALUE, Integer.MAX_VALUE};

    public static void main(String[] args) {
        Check check = new Check();
        everyCellTakesEveryCode(check);
        putChangesOneCell(check);
        putThreeFillsAndWraps(check);
        putThreeUnpacks(check);
        wrongArgumentsAreRefused(check);
        clearEmptiesGridAlone(check);
        digestWeighsCells(check);
        check.finish();
    }

    private static void everyCellTakesEveryCode(Check check) {
        for (int cell = 0; cell < 32; cell++) {
            BefungeTrace trace = new BefungeTrace();
            int before = 0;
            for (int code = 31; code >= 0; code--) {
                String call = "put(" + cell % 8 + ", " + cell / 8 + ", " + code + ")";
                check.due(call, trace.put(cell % 8, cell / 8, code), before);
                check.due("get after " + call, trace.get(cell % 8, cell / 8), code);
                before = code;
            }
        }
    }

    private static void putChangesOneCell(Check check) {
        for (int cell = 0; cell < 32; cell++) {
            BefungeTrace trace = filled();
            int[] want = filledCodes();
            trace.put(cell % 8, cell / 8, 31 - want[cell]);
            want[cell] = 31 - want[cell];
            check.dueGrid("after a put into cell " + cell, trace, want);
        }
    }

    private static void putThreeFillsAndWraps(Check check) {
        for (int cell = 0; cell < 32; cell++) {
            int x = cell % 8;
            int y = cell / 8;
            BefungeTrace trace = filled();
            int[] want = filledCodes();
            check.due("putThree(" + x + ", " + y + ")", trace.putThree(x, y, 31 + 32 * 17 + 1024 * 4), 0);
            want[8 * y + x] = 31;
            want[8 * y + (x + 1) % 8] = 17;
            want[8 * y + (x + 2) % 8] = 4;
            check.dueGrid("after putThree at cell " + cell, trace, want);
        }
    }

    private static void putThreeUnpacks(Check check) {
        int[][] threes = {{0, 0, 0}, {31, 0, 0}, {0, 31, 0}, {0, 0, 31}, {31, 31, 31}, {1, 2, 3}, {16, 8, 24}};
        BefungeTrace trace = new BefungeTrace();
        for (int[] three : threes) {
            int packed = three[0] + 32 * three[1] + 1024 * three[2];
            check.due("putThree(2, 1, " + packed + ")", trace.putThree(2, 1, packed), 0);
            for (int i = 0; i < 3; i++) {
                check.due("get(" + (2 + i) + ", 1) after " + packed, trace.get(2 + i, 1), three[i]);
            }
        }
    }

    private static void wrongArgumentsAreRefused(Check check) {
        BefungeTrace trace = filled();
        for (int x : BAD_X) {
            for (int y : new int[] {0, 3}) {
                refusedPlace(check, trace, x, y);
            }
        }
        for (int y : BAD_Y) {
            for (int x : new int[] {0, 7}) {
                refusedPlace(check, trace, x, y);
            }
        }
        refusedPlace(check, trace, -1, -1);
        refusedPlace(check, trace, 8, 4);
        for (int code : BAD_CODES) {
            check.due("put(1, 1, " + code + ")", trace.put(1, 1, code), BefungeTrace.BAD_ARG);
        }
        for (int packed : BAD_PACKED) {
            check.due("putThree(1, 1, " + packed + ")", trace.putThree(1, 1, packed), BefungeTrace.BAD_ARG);
        }
        check.dueGrid("after refused calls", trace, filledCodes());
    }

    private static void refusedPlace(Check check, BefungeTrace trace, int x, int y) {
        String place = "(" + x + ", " + y + ")";
        check.due("put at " + place, trace.put(x, y, 30), BefungeTrace.BAD_ARG);
        check.due("putThree at " + place, trace.putThree(x, y, 30), BefungeTrace.BAD_ARG);
        check.due("get at " + place, trace.get(x, y), BefungeTrace.BAD_ARG);
    }

    private static void clearEmptiesGridAlone(Check check) {
        BefungeTrace trace = filled();
        trace.clear();
        check.dueGrid("after clear", trace, new int[32]);
        check.due("digest after clear", trace.digest(), 0);

        BefungeTrace ran = Programs.loaded(0, 28, 14, 25, 29);
        ran.input(0, 12);
        ran.run();
        ran.clear();
        check.due("ending after clear", ran.ending(), BefungeTrace.ENDED);
        check.due("steps after clear", ran.steps(), 5);
        check.due("where after clear", ran.where(), 4);
        check.duePile("after clear", ran, 12);
        check.dueOutput("after clear", ran, 12);
        Programs.load(ran, 0, 0, 28, 29);
        ran.run();
        check.duePile("input after clear", ran, 12);
    }

    private static void digestWeighsCells(Check check) {
        for (int cell = 0; cell < 32; cell++) {
            BefungeTrace trace = new BefungeTrace();
            trace.put(cell % 8, cell / 8, 1);
            check.due("digest of a 1 in cell " + cell, trace.digest(), cell + 1);
            trace.put(cell % 8, cell / 8, 31);
            check.due("digest of a 31 in cell " + cell, trace.digest(), 31 * (cell + 1));
        }
        BefungeTrace full = new BefungeTrace();
        for (int cell = 0; cell < 32; cell++) {
            full.put(cell % 8, cell / 8, 31);
        }
        check.due("digest of a grid full of 31", full.digest(), 31 * 528);
    }

    private static int[] filledCodes() {
        int[] codes = new int[32];
        for (int i = 0; i < 32; i++) {
            codes[i] = (5 * i + 3) % 32;
        }
        return codes;
    }

    private static BefungeTrace filled() {
        BefungeTrace trace = new BefungeTrace();
        int[] codes = filledCodes();
        for (int i = 0; i < 32; i++) {
            trace.put(i % 8, i / 8, codes[i]);
        }
        return trace;
    }
}
