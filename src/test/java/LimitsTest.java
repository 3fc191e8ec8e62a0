import java.math.BigInteger;

/** Promise 13: exact sums, differences and products that are then cut, and what the latest run's answers outlast. */
public final class LimitsTest {
    public static void main(String[] args) {
        Check check = new Check();
        largeNumbers(check);
        latestRunStands(check);
        check.end();
    }

    private static void largeNumbers(Check check) {
        int[] numbers = {999999, -999999, 999998, 500000, -500000, 1000, 46341, -65536, 123456, 1, -1, 0};
        for (int x : numbers) {
            for (int y : numbers) {
                for (int op = Report.SET; op <= Report.DIVIDE; op++) {
                    largeNumbers(check, op, x, y);
                }
            }
        }
    }

    private static void largeNumbers(Check check, int op, int x, int y) {
        ReportCompiler r = Report.calculated(1, op, 2, x, y);
        long want = exact(op, BigInteger.valueOf(x), BigInteger.valueOf(y))
                .remainder(BigInteger.valueOf(1000000)).longValueExact();
        check.due("the first number", r.work(0), x);
        check.due("the second number", r.work(1), y);
        check.due("op " + op + " of " + x + " and " + y, r.work(2), want);
        check.due("indicator(3)", r.indicator(3), op == Report.DIVIDE && y == 0);
        Report.print(r, Report.END, 2);
        r.run();
        check.due("PRINT of " + want, Report.shown(r), want + " ");
    }

    private static BigInteger exact(int op, BigInteger x, BigInteger y) {
        switch (op) {
            case Report.ADD:
                return x.add(y);
            case Report.SUBTRACT:
                return x.subtract(y);
            case Report.MULTIPLY:
                return x.multiply(y);
            case Report.DIVIDE:
                return y.signum() == 0 ? BigInteger.ZERO : x.divide(y);
            default:
                return x;
        }
    }

    private static void latestRunStands(Check check) {
        ReportCompiler r = new ReportCompiler();
        r.card(4, 5, -6, 7);
        Report.line(r, Report.CARD, Report.ALWAYS, Report.SUBTRACT, 3, Report.FIRST, Report.SECOND);
        Report.line(r, Report.CARD, Report.ALWAYS, Report.ON, 2);
        Report.print(r, Report.CARD, 3);
        r.run();
        stands(check, r, "run");
        r.card(9, 9, 9, 9);
        stands(check, r, "card");
        r.card(100, 9, 9, 9);
        stands(check, r, "a refused card");
        r.line(0, 0, 0, 3);
        stands(check, r, "line");
        r.line(0, 0, 0, 6);
        stands(check, r, "a refused line");
        r.operands(0, 10, 10, 1);
        stands(check, r, "operands");
        r.operands(0, 11, 10, 1);
        stands(check, r, "refused operands");
        r.retract();
        stands(check, r, "retract");
        r.clear();
        stands(check, r, "clear");
        r.level(0);
        stands(check, r, "level");
        for (int n = 0; n < 4; n++) {
            r.retract();
            stands(check, r, "retract to none");
        }
        r.run();
        check.due("work(3) after a new run", r.work(3), 0);
        check.due("indicator(2) after a new run", r.indicator(2), false);
        check.due("printed() after a new run", r.printed(), 0);
    }

    private static void stands(Check check, ReportCompiler r, String call) {
        for (int w = 0; w <= 5; w++) {
            check.due("work(" + w + ") after " + call, r.work(w), w == 3 ? -13 : 0);
        }
        for (int i = 0; i <= 3; i++) {
            check.due("indicator(" + i + ") after " + call, r.indicator(i), i == 2);
        }
        check.due("printed() after " + call, r.printed(), 4);
        check.due("text after " + call, Report.shown(r), "-13 ");
    }
}
