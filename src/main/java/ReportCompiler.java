/** Reports over cards with totals at breaks, compiled for a machine that counts in decimal digits. */
public final class ReportCompiler {
    public static final int BAD = -10000000;
    public static final int FULL = -10000001;

    private static final int MOST_CARDS = 16;
    private static final int HIGHEST_KEY = 99;
    private static final int HIGHEST_AMOUNT = 999;

    private static final int MOST_LINES = 14;
    private static final int HIGHEST_CONDITION = 8;
    private static final int WORK_FIELDS = 6;
    private static final int INDICATORS = 4;

    private static final int AT_CARD = 0;
    private static final int AT_KEY_BREAK = 1;
    private static final int AT_PART_BREAK = 2;
    private static final int AT_END = 3;
    private static final int SECTIONS = 4;

    private static final int SOURCE_KEY = 6;
    private static final int SOURCE_PART = 7;
    private static final int SOURCE_FIRST = 8;
    private static final int SOURCE_CONSTANT = 10;

    private static final int OP_ADD = 1;
    private static final int OP_SUBTRACT = 2;
    private static final int OP_MULTIPLY = 3;
    private static final int OP_DIVIDE = 4;
    private static final int OP_COMPARE = 5;
    private static final int OP_TURN_ON = 6;
    private static final int OP_TURN_OFF = 7;
    private static final int OP_PRINT = 8;
    private static final int OP_END_LINE = 9;

    private static final int INDICATOR_GREATER = 0;
    private static final int INDICATOR_LESS = 1;
    private static final int INDICATOR_EQUAL = 2;
    private static final int INDICATOR_ZERO_DIVISOR = 3;

    private static final int CUT_DIVISOR = 1000000;
    private static final int HIGHEST_UNIT = 100000;

    private static final int TEXT_KEPT = 80;
    private static final int END_OF_LINE = 10;
    private static final int BLANK = 32;
    private static final int MINUS = 45;
    private static final int DIGIT_ZERO = 48;

    private static final int NO_CARD = -1;
    private static final int LEVEL_WHOLE = 0;
    private static final int LEVEL_SECTIONS = 1;

    private final int[] cardKey = new int[MOST_CARDS];
    private final int[] cardPart = new int[MOST_CARDS];
    private final int[] cardFirst = new int[MOST_CARDS];
    private final int[] cardSecond = new int[MOST_CARDS];
    private int cardCount;

    private final int[] lineWhen = new int[MOST_LINES];
    private final int[] lineCondition = new int[MOST_LINES];
    private final int[] lineOp = new int[MOST_LINES];
    private final int[] lineTarget = new int[MOST_LINES];
    private final int[] lineX = new int[MOST_LINES];
    private final int[] lineY = new int[MOST_LINES];
    private final int[] lineConstant = new int[MOST_LINES];
    private int lineCount;

    private final int[] code = new int[MOST_LINES];
    private final int[] sectionStart = new int[SECTIONS];
    private final int[] sectionEnd = new int[SECTIONS];
    private int compileLevel;

    private final int[] workFields = new int[WORK_FIELDS];
    private final boolean[] indicators = new boolean[INDICATORS];
    private final int[] characters = new int[TEXT_KEPT];
    private int textLength;
    private int presentCard;
    private int executedCount;

    public ReportCompiler() {
        compileLevel = LEVEL_SECTIONS;
        presentCard = NO_CARD;
    }

    public int card(int key, int part, int first, int second) {
        if (cardCount >= MOST_CARDS) {
            return FULL;
        }
        if (!isWithin(key, 0, HIGHEST_KEY) || !isWithin(part, 0, HIGHEST_KEY)
                || !isAmount(first) || !isAmount(second)) {
            return BAD;
        }
        cardKey[cardCount] = key;
        cardPart[cardCount] = part;
        cardFirst[cardCount] = first;
        cardSecond[cardCount] = second;
        cardCount++;
        return cardCount;
    }

    public int clear() {
        int taken = cardCount;
        cardCount = 0;
        return taken;
    }

    public int line(int when, int condition, int op, int w) {
        if (lineCount >= MOST_LINES) {
            return FULL;
        }
        if (!isWithin(when, AT_CARD, AT_END) || !isWithin(condition, 0, HIGHEST_CONDITION)
                || !isWithin(op, 0, OP_END_LINE) || !isTarget(op, w)) {
            return BAD;
        }
        lineWhen[lineCount] = when;
        lineCondition[lineCount] = condition;
        lineOp[lineCount] = op;
        lineTarget[lineCount] = w;
        // A line that was retracted from this place may have left its operands here.
        lineX[lineCount] = 0;
        lineY[lineCount] = 0;
        lineConstant[lineCount] = 0;
        lineCount++;
        return lineCount;
    }

    public boolean operands(int i, int x, int y, int c) {
        if (i < 0 || i >= lineCount) {
            return false;
        }
        if (!isWithin(x, 0, SOURCE_CONSTANT) || !isWithin(y, 0, SOURCE_CONSTANT) || !isAmount(c)) {
            return false;
        }
        lineX[i] = x;
        lineY[i] = y;
        lineConstant[i] = c;
        return true;
    }

    public int retract() {
        if (lineCount == 0) {
            return BAD;
        }
        lineCount--;
        return lineCount;
    }

    public int run() {
        beginRun();
        compileReport();
        for (int next = 0; next < cardCount; next++) {
            executeBreaksBefore(next);
            presentCard = next;
            executeSection(AT_CARD);
        }
        if (presentCard != NO_CARD) {
            executeSection(AT_KEY_BREAK);
            executeSection(AT_PART_BREAK);
        }
        executeSection(AT_END);
        return executedCount;
    }

    public int work(int w) {
        if (w < 0 || w >= WORK_FIELDS) {
            return BAD;
        }
        return workFields[w];
    }

    public boolean indicator(int i) {
        if (i < 0 || i >= INDICATORS) {
            return false;
        }
        return indicators[i];
    }

    public int printed() {
        return textLength;
    }

    public int text(int k) {
        if (k < 0 || k >= TEXT_KEPT || k >= textLength) {
            return 0;
        }
        return characters[k];
    }

    public boolean level(int k) {
        if (!isWithin(k, LEVEL_WHOLE, LEVEL_SECTIONS)) {
            return false;
        }
        compileLevel = k;
        return true;
    }

    private static boolean isWithin(int number, int lowest, int highest) {
        return number >= lowest && number <= highest;
    }

    private static boolean isAmount(int number) {
        return isWithin(number, -HIGHEST_AMOUNT, HIGHEST_AMOUNT);
    }

    private static boolean isTarget(int op, int w) {
        int targets = op == OP_TURN_ON || op == OP_TURN_OFF ? INDICATORS : WORK_FIELDS;
        return w >= 0 && w < targets;
    }

    private void beginRun() {
        for (int w = 0; w < WORK_FIELDS; w++) {
            workFields[w] = 0;
        }
        for (int i = 0; i < INDICATORS; i++) {
            indicators[i] = false;
        }
        textLength = 0;
        presentCard = NO_CARD;
        executedCount = 0;
    }

    // Compiled anew for each run, so that no call that changes the report has to think of the code.
    private void compileReport() {
        if (compileLevel == LEVEL_WHOLE) {
            compileWhole();
        } else {
            compileSections();
        }
    }

    private void compileWhole() {
        for (int i = 0; i < lineCount; i++) {
            code[i] = i;
        }
        for (int when = 0; when < SECTIONS; when++) {
            sectionStart[when] = 0;
            sectionEnd[when] = lineCount;
        }
    }

    // Lines of one when stand together, so that a section doesn't pass over the lines of the others.
    private void compileSections() {
        int length = 0;
        for (int when = 0; when < SECTIONS; when++) {
            sectionStart[when] = length;
            for (int i = 0; i < lineCount; i++) {
                if (lineWhen[i] == when) {
                    code[length] = i;
                    length++;
                }
            }
            sectionEnd[when] = length;
        }
    }

    private void executeBreaksBefore(int next) {
        if (presentCard == NO_CARD) {
            return;
        }
        if (cardPart[presentCard] != cardPart[next]) {
            executeSection(AT_KEY_BREAK);
            executeSection(AT_PART_BREAK);
        } else if (cardKey[presentCard] != cardKey[next]) {
            executeSection(AT_KEY_BREAK);
        }
    }

    private void executeSection(int when) {
        int end = sectionEnd[when];
        for (int place = sectionStart[when]; place < end; place++) {
            int i = code[place];
            // A report compiled whole has lines of every when in each section.
            if (lineWhen[i] == when && conditionHolds(lineCondition[i])) {
                executedCount++;
                executeLine(i);
            }
        }
    }

    private boolean conditionHolds(int condition) {
        if (condition == 0) {
            return true;
        }
        if (condition <= INDICATORS) {
            return indicators[condition - 1];
        }
        return !indicators[condition - 1 - INDICATORS];
    }

    private void executeLine(int i) {
        int x = sourceNumber(lineX[i], lineConstant[i]);
        int y = sourceNumber(lineY[i], lineConstant[i]);
        int w = lineTarget[i];
        switch (lineOp[i]) {
            case OP_COMPARE:
                compare(x, y);
                break;
            case OP_TURN_ON:
                indicators[w] = true;
                break;
            case OP_TURN_OFF:
                indicators[w] = false;
                break;
            case OP_PRINT:
                print(x);
                break;
            case OP_END_LINE:
                addCharacter(END_OF_LINE);
                break;
            default:
                workFields[w] = calculate(lineOp[i], x, y);
                break;
        }
    }

    private int sourceNumber(int source, int constant) {
        if (source < WORK_FIELDS) {
            return workFields[source];
        }
        if (source == SOURCE_CONSTANT) {
            return constant;
        }
        if (presentCard == NO_CARD) {
            return 0;
        }
        switch (source) {
            case SOURCE_KEY:
                return cardKey[presentCard];
            case SOURCE_PART:
                return cardPart[presentCard];
            case SOURCE_FIRST:
                return cardFirst[presentCard];
            default:
                return cardSecond[presentCard];
        }
    }

    // The numbers are long because the product of two work fields does not fit in an int.
    private int calculate(int op, long x, long y) {
        long result;
        switch (op) {
            case OP_ADD:
                result = x + y;
                break;
            case OP_SUBTRACT:
                result = x - y;
                break;
            case OP_MULTIPLY:
                result = x * y;
                break;
            case OP_DIVIDE:
                result = quotient(x, y);
                break;
            default:
                result = x;
                break;
        }
        return (int) (result % CUT_DIVISOR);
    }

    private long quotient(long x, long y) {
        if (y == 0) {
            indicators[INDICATOR_ZERO_DIVISOR] = true;
            return 0;
        }
        return x / y;
    }

    private void compare(int x, int y) {
        indicators[INDICATOR_GREATER] = x > y;
        indicators[INDICATOR_LESS] = x < y;
        indicators[INDICATOR_EQUAL] = x == y;
    }

    private void print(int number) {
        int size = number;
        if (number < 0) {
            addCharacter(MINUS);
            size = -number;
        }
        for (int unit = HIGHEST_UNIT; unit >= 1; unit = unit / 10) {
            // Leading zeros are left out, but the last digit stands even for the number 0.
            if (size >= unit || unit == 1) {
                addCharacter(DIGIT_ZERO + size / unit % 10);
            }
        }
        addCharacter(BLANK);
    }

    // Characters that text never shows are counted but not kept.
    private void addCharacter(int character) {
        if (textLength < TEXT_KEPT) {
            characters[textLength] = character;
        }
        textLength++;
    }
}
