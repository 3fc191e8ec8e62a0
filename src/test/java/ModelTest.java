/** Promises 1 to 13 together: many runs of mixed calls, each answer compared with the model's. */
public final class ModelTest {
    private static final int OBJECTS = 4000;
    private static final int CALLS = 512;

    private final Check check = new Check();
    private long seed = 20261115L;
    private ReportCompiler r;
    private Model m;

    public static void main(String[] args) {
        ModelTest test = new ModelTest();
        for (int n = 0; n < OBJECTS; n++) {
            test.compareOne();
        }
        test.check.end();
    }

    /** A fixed row of numbers that looks mixed, so that every run of this test is the same. */
    private int upTo(int bound) {
        seed = seed * 6364136223846793005L + 1442695040888963407L;
        return (int) ((seed >>> 33) % bound);
    }

    /** Mostly from low to high, often at the edges, now and then outside. */
    private int about(int low, int high) {
        switch (upTo(16)) {
            case 0:
                return low;
            case 1:
                return high;
            case 2:
                return upTo(6) == 0 ? low - 1 : low;
            case 3:
                return upTo(6) == 0 ? high + 1 : high;
            case 4:
                return upTo(40) == 0 ? Report.EXTREMES[upTo(4)] : low;
            default:
                return low + upTo(high - low + 1);
        }
    }

    private void compareOne() {
        r = new ReportCompiler();
        m = new Model();
        for (int calls = 0; calls < CALLS; calls++) {
            compareCall();
        }
    }

    private void compareCall() {
        int kind = upTo(100);
        if (kind < 14) {
            compareCard();
        } else if (kind < 15) {
            check.due("clear()", r.clear(), m.clear());
        } else if (kind < 28) {
            compareLine();
        } else if (kind < 48) {
            compareOperands();
        } else if (kind < 52) {
            check.due("retract()", r.retract(), m.retract());
        } else if (kind < 62) {
            check.due("run()", r.run(), m.run());
        } else if (kind < 64) {
            int k = about(0, 1);
            check.due("level(" + k + ")", r.level(k), m.level(k));
        } else {
            compareState(kind);
        }
    }

    private void compareCard() {
        // Few keys and parts, so that cards with and without a break follow each other.
        int key = upTo(4) == 0 ? about(0, 99) : upTo(2);
        int part = upTo(4) == 0 ? about(0, 99) : upTo(2);
        int first = about(-999, 999);
        int second = about(-999, 999);
        check.due("card(" + key + ", " + part + ", " + first + ", " + second + ")",
                r.card(key, part, first, second), m.card(key, part, first, second));
    }

    private void compareLine() {
        int when = about(0, 3);
        int condition = upTo(2) == 0 ? 0 : about(0, 8);
        int op = about(0, 9);
        int w = about(0, 5);
        check.due("line(" + when + ", " + condition + ", " + op + ", " + w + ")",
                r.line(when, condition, op, w), m.line(when, condition, op, w));
    }

    private void compareOperands() {
        int i = about(0, 13);
        int x = about(0, 10);
        int y = about(0, 10);
        int c = about(-999, 999);
        check.due("operands(" + i + ", " + x + ", " + y + ", " + c + ")",
                r.operands(i, x, y, c), m.operands(i, x, y, c));
    }

    private void compareState(int kind) {
        if (kind < 78) {
            int w = about(0, 5);
            check.due("work(" + w + ")", r.work(w), m.work(w));
        } else if (kind < 84) {
            int i = about(0, 3);
            check.due("indicator(" + i + ")", r.indicator(i), m.indicator(i));
        } else if (kind < 87) {
            check.due("printed()", r.printed(), m.printed());
        } else {
            int k = about(0, 79);
            check.due("text(" + k + ")", r.text(k), m.text(k));
        }
    }
}
