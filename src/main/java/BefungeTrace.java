public final class BefungeTrace {
    public static final int BAD_ARG = -1;
    public static final int NO_RUN = 0;
    public static final int ENDED = 1;
    public static final int TIRED = 2;
    public static final int FULL_PILE = 3;
    public static final int FULL_OUTPUT = 4;

    private static final int COLUMNS = 8;
    private static final int ROWS = 4;
    private static final int CELLS = 32;
    private static final int INPUTS = 4;
    private static final int MOST_ON_PILE = 10;
    private static final int MOST_IN_OUTPUT = 16;
    private static final int MOST_STEPS = 400;

    // The sizes are powers of two, so a mask wraps round and keeps every index in range.
    private static final int COLUMN_MASK = 7;
    private static final int ROW_MASK = 3;
    private static final int CODE_MASK = 31;
    private static final int INPUT_MASK = 3;

    private static final int CODE_BITS = 5;
    private static final int MOST_PACKED = 32767;

    private static final int RIGHT = 0;
    private static final int LEFT = 1;
    private static final int DOWN = 2;
    private static final int UP = 3;

    private static final int CODE_FIRST_NUMBER = 1;
    private static final int CODE_LAST_NUMBER = 9;
    private static final int CODE_ADD = 10;
    private static final int CODE_SUBTRACT = 11;
    private static final int CODE_MULTIPLY = 12;
    private static final int CODE_GREATER = 13;
    private static final int CODE_TWICE = 14;
    private static final int CODE_SWAP = 15;
    private static final int CODE_DROP = 16;
    private static final int CODE_NOT = 17;
    private static final int CODE_RIGHT = 18;
    private static final int CODE_LEFT = 19;
    private static final int CODE_DOWN = 20;
    private static final int CODE_UP = 21;
    private static final int CODE_RIGHT_OR_LEFT = 22;
    private static final int CODE_DOWN_OR_UP = 23;
    private static final int CODE_PASS_OVER = 24;
    private static final int CODE_OUTPUT = 25;
    private static final int CODE_WRITE_CELL = 26;
    private static final int CODE_READ_CELL = 27;
    private static final int CODE_INPUT = 28;
    private static final int CODE_END = 29;

    private final int[] cells = new int[CELLS];
    private final int[] inputNumbers = new int[INPUTS];
    private final int[] pileNumbers = new int[MOST_ON_PILE];
    private final int[] outputNumbers = new int[MOST_IN_OUTPUT];

    private int pileHeight;
    private int outputCount;
    private int placeX;
    private int placeY;
    private int direction;
    private int stepsDone;
    // NO_RUN before the first run, and also while a run goes on.
    private int howEnded;

    public BefungeTrace() {
        resetRun();
    }

    public int put(int x, int y, int code) {
        if (!isCell(x, y) || code < 0 || code > CODE_MASK) {
            return BAD_ARG;
        }
        int before = readCell(x, y);
        writeCell(x, y, code);
        return before;
    }

    public int putThree(int x, int y, int packed) {
        if (!isCell(x, y) || packed < 0 || packed > MOST_PACKED) {
            return BAD_ARG;
        }
        writeCell(x, y, packed);
        writeCell(x + 1, y, packed >> CODE_BITS);
        writeCell(x + 2, y, packed >> (2 * CODE_BITS));
        return 0;
    }

    public int get(int x, int y) {
        if (!isCell(x, y)) {
            return BAD_ARG;
        }
        return readCell(x, y);
    }

    public void clear() {
        for (int i = 0; i < CELLS; i++) {
            cells[i] = 0;
        }
    }

    public int input(int i, int v) {
        if (i < 0 || i >= INPUTS) {
            return BAD_ARG;
        }
        inputNumbers[i] = v;
        return 0;
    }

    public int run() {
        resetRun();
        for (int step = 0; step < MOST_STEPS && howEnded == NO_RUN; step++) {
            stepsDone++;
            int code = readCell(placeX, placeY);
            workOff(code);
            if (howEnded == NO_RUN) {
                movePlace();
            }
        }
        if (howEnded == NO_RUN) {
            howEnded = TIRED;
        }
        return howEnded;
    }

    public int ending() {
        return howEnded;
    }

    public int steps() {
        return stepsDone;
    }

    public int height() {
        return pileHeight;
    }

    public int pile(int i) {
        if (i < 0 || i >= pileHeight) {
            return 0;
        }
        return pileNumbers[i];
    }

    public int outputs() {
        return outputCount;
    }

    public int output(int i) {
        if (i < 0 || i >= outputCount) {
            return 0;
        }
        return outputNumbers[i];
    }

    public int where() {
        return placeX + COLUMNS * placeY + CELLS * direction;
    }

    public int digest() {
        int sum = 0;
        for (int i = 0; i < CELLS; i++) {
            sum += (i + 1) * cells[i];
        }
        return sum;
    }

    private static boolean isCell(int x, int y) {
        return x >= 0 && x < COLUMNS && y >= 0 && y < ROWS;
    }

    private int readCell(int x, int y) {
        return cells[(x & COLUMN_MASK) + COLUMNS * (y & ROW_MASK)];
    }

    private void writeCell(int x, int y, int code) {
        cells[(x & COLUMN_MASK) + COLUMNS * (y & ROW_MASK)] = code & CODE_MASK;
    }

    private void resetRun() {
        pileHeight = 0;
        outputCount = 0;
        placeX = 0;
        placeY = 0;
        direction = RIGHT;
        stepsDone = 0;
        howEnded = NO_RUN;
    }

    private void workOff(int code) {
        if (code >= CODE_FIRST_NUMBER && code <= CODE_LAST_NUMBER) {
            push(code);
        } else if (code >= CODE_ADD && code <= CODE_GREATER) {
            workOffTwoNumbers(code);
        } else if (code >= CODE_TWICE && code <= CODE_NOT) {
            workOffPile(code);
        } else if (code >= CODE_RIGHT && code <= CODE_PASS_OVER) {
            workOffWay(code);
        } else if (code >= CODE_OUTPUT && code <= CODE_END) {
            workOffOutside(code);
        }
    }

    private void workOffTwoNumbers(int code) {
        int b = pop();
        int a = pop();
        switch (code) {
            case CODE_ADD:
                push(a + b);
                break;
            case CODE_SUBTRACT:
                push(a - b);
                break;
            case CODE_MULTIPLY:
                push(a * b);
                break;
            default:
                push(a > b ? 1 : 0);
                break;
        }
    }

    private void workOffPile(int code) {
        switch (code) {
            case CODE_TWICE:
                pushTopTwice();
                break;
            case CODE_SWAP:
                swapTopTwo();
                break;
            case CODE_DROP:
                pop();
                break;
            default:
                pushNot();
                break;
        }
    }

    private void pushTopTwice() {
        int a = pop();
        push(a);
        push(a);
    }

    private void swapTopTwo() {
        int b = pop();
        int a = pop();
        push(b);
        push(a);
    }

    private void pushNot() {
        int a = pop();
        push(a == 0 ? 1 : 0);
    }

    private void workOffWay(int code) {
        switch (code) {
            case CODE_RIGHT:
                direction = RIGHT;
                break;
            case CODE_LEFT:
                direction = LEFT;
                break;
            case CODE_DOWN:
                direction = DOWN;
                break;
            case CODE_UP:
                direction = UP;
                break;
            case CODE_RIGHT_OR_LEFT:
                direction = pop() == 0 ? RIGHT : LEFT;
                break;
            case CODE_DOWN_OR_UP:
                direction = pop() == 0 ? DOWN : UP;
                break;
            default:
                movePlace();
                break;
        }
    }

    private void workOffOutside(int code) {
        switch (code) {
            case CODE_OUTPUT:
                appendOutput();
                break;
            case CODE_WRITE_CELL:
                writePoppedCell();
                break;
            case CODE_READ_CELL:
                pushPoppedCell();
                break;
            case CODE_INPUT:
                pushInput();
                break;
            default:
                howEnded = ENDED;
                break;
        }
    }

    private void appendOutput() {
        int a = pop();
        if (outputCount >= MOST_IN_OUTPUT) {
            howEnded = FULL_OUTPUT;
        } else {
            outputNumbers[outputCount] = a;
            outputCount++;
        }
    }

    private void writePoppedCell() {
        int y = pop();
        int x = pop();
        int v = pop();
        writeCell(x, y, v);
    }

    private void pushPoppedCell() {
        int y = pop();
        int x = pop();
        int code = readCell(x, y);
        push(code);
    }

    private void pushInput() {
        int a = pop();
        push(inputNumbers[a & INPUT_MASK]);
    }

    private int pop() {
        if (pileHeight <= 0) {
            return 0;
        }
        pileHeight--;
        return pileNumbers[pileHeight];
    }

    private void push(int number) {
        if (pileHeight >= MOST_ON_PILE) {
            howEnded = FULL_PILE;
        } else {
            pileNumbers[pileHeight] = number;
            pileHeight++;
        }
    }

    private void movePlace() {
        switch (direction) {
            case RIGHT:
                placeX = (placeX + 1) & COLUMN_MASK;
                break;
            case LEFT:
                placeX = (placeX - 1) & COLUMN_MASK;
                break;
            case DOWN:
                placeY = (placeY + 1) & ROW_MASK;
                break;
            default:
                placeY = (placeY - 1) & ROW_MASK;
                break;
        }
    }
}
