/** Short ways to fill and to read a ReportCompiler. */
final class Report {
    static final int CARD = 0;
    static final int KEY_BREAK = 1;
    static final int PART_BREAK = 2;
    static final int END = 3;

    static final int ALWAYS = 0;

    static final int SET = 0;
    static final int ADD = 1;
    static final int SUBTRACT = 2;
    static final int MULTIPLY = 3;
    static final int DIVIDE = 4;
    static final int COMPARE = 5;
    static final int ON = 6;
    static final int OFF = 7;
    static final int PRINT = 8;
    static final int END_LINE = 9;

    static final int KEY = 6;
    static final int PART = 7;
    static final int FIRST = 8;
    static final int SECOND = 9;
    static final int C = 10;

    static final int[] EXTREMES = {Integer.MIN_VALUE, -1000000, 1000000, Integer.MAX_VALUE};

    private Report() {
    }

    /** The lowest and the highest number that a work field can have, and those around 0. */
    static final int[] WORK_EDGES = {-999999, -999998, -1, 0, 1, 999998, 999999};

    static ReportCompiler atLevel(int level) {
        ReportCompiler r = new ReportCompiler();
        r.level(level);
        return r;
    }

    /** Adds a line with its operands; a refusal here is a fault of the test or of the program. */
    static void line(ReportCompiler r, int when, int condition, int op, int w, int... operands) {
        int lines = r.line(when, condition, op, w);
        int x = operands.length > 0 ? operands[0] : 0;
        int y = operands.length > 1 ? operands[1] : 0;
        int c = operands.length > 2 ? operands[2] : 0;
        if (lines < 1 || !r.operands(lines - 1, x, y, c)) {
            throw new IllegalStateException("a good line was refused");
        }
    }

    static void print(ReportCompiler r, int when, int source) {
        line(r, when, ALWAYS, PRINT, 0, source);
    }

    static void printConstant(ReportCompiler r, int when, int condition, int c) {
        line(r, when, condition, PRINT, 0, C, 0, c);
    }

    /** Brings work field w to any number that it can have, with four lines. */
    static void load(ReportCompiler r, int when, int w, int number) {
        line(r, when, ALWAYS, SET, w, C, 0, number / 1000);
        line(r, when, ALWAYS, MULTIPLY, w, w, C, 500);
        line(r, when, ALWAYS, ADD, w, w, w);
        line(r, when, ALWAYS, ADD, w, w, C, number % 1000);
    }

    /** A run at whose end work fields 0 and 1 became x and y, and then op, with these two, was executed for w. */
    static ReportCompiler calculated(int level, int op, int w, int x, int y) {
        ReportCompiler r = atLevel(level);
        load(r, END, 0, x);
        load(r, END, 1, y);
        line(r, END, ALWAYS, op, w, 0, 1);
        r.run();
        return r;
    }

    /** The characters that text shows, until the first that is not there; asks for each once, since calls are bounded. */
    static String shown(ReportCompiler r) {
        StringBuilder shown = new StringBuilder();
        int character = r.text(0);
        while (character != 0 && shown.length() < 200) {
            shown.append((char) character);
            character = r.text(shown.length());
        }
        return shown.toString();
    }
}
