/** Promises 7 and 14: where a run goes, codes 18 to 24, round all edges. */
public final class WaysTest {
    private static final int CODE_RIGHT = 18;

    public static void main(String[] args) {
        Check check = new Check();
        everyTurn(check);
        wayRoundEveryEdge(check);
        turnsRightOrLeft(check);
        turnsDownOrUp(check);
        numbersTurnEveryWay(check);
        passesOverInEveryDirection(check);
        passesOverTheEdge(check);
        check.finish();
    }

    /** From each direction into each: codes 18 to 21 stand in the order of the directions 0 to 3. */
    private static void everyTurn(Check check) {
        for (int from = 0; from < 4; from++) {
            for (int into = 0; into < 4; into++) {
                BefungeTrace trace = Programs.loaded(CODE_RIGHT + from);
                boolean back = into == (from ^ 1);
                // A way back is met through a cell that was passed over, so that it can hold the end.
                int turn = Programs.away(0, from, back ? 3 : 1);
                int end = Programs.away(turn, into, 1);
                if (back) {
                    Programs.putCell(trace, Programs.away(0, from, 1), 24);
                }
                Programs.putCell(trace, turn, CODE_RIGHT + into);
                Programs.putCell(trace, end, 29);
                String program = "direction " + from + " into " + into;
                check.dueRun(program, trace, BefungeTrace.ENDED, back ? 4 : 3, end + 32 * into);
            }
        }
    }

    private static void wayRoundEveryEdge(Check check) {
        BefungeTrace right = Programs.loaded(1, 2, 3, 4, 5, 6, 7, 8);
        check.dueRun("right round", right, BefungeTrace.FULL_PILE, 11, 2);
        check.duePile("right round", right, 1, 2, 3, 4, 5, 6, 7, 8, 1, 2);

        BefungeTrace left = Programs.loaded(19, 1, 2, 3, 4, 5, 6, 7);
        check.dueRun("left round", left, BefungeTrace.FULL_PILE, 13, 4 + 32);
        check.duePile("left round", left, 7, 6, 5, 4, 3, 2, 1, 7, 6, 5);

        BefungeTrace down = columnOfNumbers(20);
        check.dueRun("down round", down, BefungeTrace.FULL_PILE, 15, 16 + 64);
        check.duePile("down round", down, 1, 2, 3, 1, 2, 3, 1, 2, 3, 1);

        BefungeTrace up = columnOfNumbers(21);
        check.dueRun("up round", up, BefungeTrace.FULL_PILE, 15, 16 + 96);
        check.duePile("up round", up, 3, 2, 1, 3, 2, 1, 3, 2, 1, 3);
    }

    private static BefungeTrace columnOfNumbers(int first) {
        BefungeTrace trace = Programs.loaded(first);
        for (int y = 1; y < 4; y++) {
            trace.put(0, y, y);
        }
        return trace;
    }

    private static void turnsRightOrLeft(Check check) {
        for (int a : new int[] {0, 1, -1, 2, Integer.MIN_VALUE, Integer.MAX_VALUE}) {
            BefungeTrace trace = Programs.loaded(5, 4, 28, 24, 29, 22, 29);
            trace.input(0, a);
            int where = a == 0 ? 6 : 4 + 32;
            check.dueRun("code 22 on " + a, trace, BefungeTrace.ENDED, 6, where);
            check.duePile("code 22 on " + a, trace, 5);
        }
    }

    private static void turnsDownOrUp(Check check) {
        for (int a : new int[] {0, 1, -1, 2, Integer.MIN_VALUE, Integer.MAX_VALUE}) {
            BefungeTrace trace = Programs.loaded(5, 4, 28, 23);
            trace.put(3, 1, 29);
            trace.put(3, 3, 29);
            trace.input(0, a);
            int where = a == 0 ? 3 + 8 + 64 : 3 + 24 + 96;
            check.dueRun("code 23 on " + a, trace, BefungeTrace.ENDED, 5, where);
            check.duePile("code 23 on " + a, trace, 5);
        }
    }

    /** Codes 22 and 23 come to the same whatever the direction before, and read 0 off an empty pile. */
    private static void numbersTurnEveryWay(Check check) {
        for (int a = 0; a < 2; a++) {
            BefungeTrace down = Programs.loaded(28, 20);
            Programs.load(down, 0, 1, 29, 22, 29);
            down.input(0, a);
            int downWhere = a == 0 ? 2 + 8 : 8 + 32;
            check.dueRun("code 22 downward on " + a, down, BefungeTrace.ENDED, 4, downWhere);

            BefungeTrace left = Programs.loaded(28, 20);
            Programs.load(left, 0, 1, 29, 20);
            Programs.load(left, 0, 2, 23, 19);
            left.put(0, 3, 29);
            left.input(0, a);
            int leftWhere = a == 0 ? 24 + 64 : 8 + 96;
            check.dueRun("code 23 leftward on " + a, left, BefungeTrace.ENDED, 6, leftWhere);
        }
        BefungeTrace empty = Programs.loaded(22, 23, 29);
        empty.put(1, 1, 29);
        check.dueRun("codes 22 and 23 on an empty pile", empty, BefungeTrace.ENDED, 3, 1 + 8 + 64);
        check.duePile("codes 22 and 23 on an empty pile", empty);
    }

    private static void passesOverInEveryDirection(Check check) {
        for (int direction = 0; direction < 4; direction++) {
            BefungeTrace trace = Programs.loaded(CODE_RIGHT + direction);
            int end = Programs.away(0, direction, 3);
            Programs.putCell(trace, Programs.away(0, direction, 1), 24);
            Programs.putCell(trace, Programs.away(0, direction, 2), 29);
            Programs.putCell(trace, end, 29);
            check.dueRun("code 24 in direction " + direction, trace, BefungeTrace.ENDED, 3, end + 32 * direction);
        }
    }

    private static void passesOverTheEdge(Check check) {
        BefungeTrace overFirst = Programs.loaded(1, 0, 0, 0, 0, 0, 0, 24);
        check.dueRun("code 24 at the last column", overFirst, BefungeTrace.TIRED, 400, 1);
        check.duePile("code 24 at the last column", overFirst, 1);

        BefungeTrace overLast = Programs.loaded(1, 0, 0, 0, 0, 0, 24, 29);
        check.dueRun("code 24 before the last column", overLast, BefungeTrace.FULL_PILE, 71, 0);

        BefungeTrace overRows = Programs.loaded(2, 20);
        overRows.put(1, 3, 24);
        overRows.put(1, 1, 29);
        check.dueRun("code 24 at the last row", overRows, BefungeTrace.ENDED, 3, 1 + 8 + 64);
        overRows.put(1, 1, 24);
        overRows.put(1, 3, 29);
        check.dueRun("code 24 into the last row", overRows, BefungeTrace.ENDED, 4, 1 + 24 + 64);
    }
}
