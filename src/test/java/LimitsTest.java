import java.math.BigInteger;

/** Promise 13: exact sums, differences and products that are then cut, and what the latest run's answers outlast. */
public final class LimitsTest {
    public static void main(String[] args) {
        Check check = new Check();
        largeNumbers(check);
        latestRunStands(check);
        check.end();
    }

    /** Brings work field w to the number high * 1000 + low, with four lines executed at the end. */
    private static void load(ReportCompiler r, int w, int high, int low) {
        Report.line(r, Report.END, Report.ALWAYS, Report.SET, w, Report.C, 0, high);
        Report.line(r, Report.END, Report.ALWAYS, Report.MULTIPLY, w, w, Report.C, 500);
        Report.line(r, Report.END, Report.ALWAYS, Report.ADD, w, w, w);
        Report.line(r, Report.END, Report.ALWAYS, Report.ADD, w, w, Report.C, low);
    }

    private static void largeNumbers(Check check) {
        int[][] parts = {{999, 999}, {-999, -999}, {999, 998}, {500, 0}, {-500, 0}, {1, 0}, {46, 341},
            {-65, -536}, {123, 456}, {0, 1}, {0, -1}, {0, 0}};
        for (int[] a : parts) {
            for (int[] b : parts) {
                for (int op = Report.SET; op <= Report.DIVIDE; op++) {
                    largeNumbers(check, a, b, op);
                }
            }
        }
    }

    private static void largeNumbers(Check check, int[] a, int[] b, int op) {
        BigInteger x = BigInteger.valueOf(1000L * a[0] + a[1]);
        BigInteger y = BigInteger.valueOf(1000L * b[0] + b[1]);
        ReportCompiler r = new ReportCompiler();
        load(r, 0, a[0], a[1]);
        load(r, 1, b[0], b[1]);
        Report.line(r, Report.END, Report.ALWAYS, op, 2, 0, 1);
        Report.print(r, Report.END, 2);
        r.run();
        long want = exact(op, x, y).remainder(BigInteger.valueOf(1000000)).longValueExact();
        check.due("the first number", r.work(0), x.longValueExact());
        check.due("the second number", r.work(1), y.longValueExact());
        check.due("op " + op + " of " + x + " and " + y, r.work(2), want);
        check.due("PRINT of " + want, Report.shown(r), want + " ");
        check.due("indicator(3)", r.indicator(3), op == Report.DIVIDE && y.signum() == 0);
    }

    private static BigInteger exact(int op, BigInteger x, BigInteger y) {
        switch (op) {
            case Report.ADD:
                return x.add(y);
            case Report.SUBTRACT:
                return x.subtract(y);
            case Report.MULTIPLY:
                return x.multiply(y);
            case Report.DIVIDE:
                return y.signum() == 0 ? BigInteger.ZERO : x.divide(y);
            default:
                return x;
        }
    }

    private static void latestRunStands(Check check) {
        ReportCompiler r = new ReportCompiler();
        r.card(4, 5, -6, 7);
        Report.line(r, Report.CARD, Report.ALWAYS, Report.SUBTRACT, 3, Report.FIRST, Report.SECOND);
        Report.line(r, Report.CARD, Report.ALWAYS, Report.ON, 2);
        Report.print(r, Report.CARD, 3);
        r.run();
        stands(check, r, "run");
        r.card(9, 9, 9, 9);
        stands(check, r, "card");
        r.card(100, 9, 9, 9);
        stands(check, r, "a refused card");
        r.line(0, 0, 0, 3);
        stands(check, r, "line");
        r.line(0, 0, 0, 6);
        stands(check, r, "a refused line");
        r.operands(0, 10, 10, 1);
        stands(check, r, "operands");
        r.operands(0, 11, 10, 1);
        stands(check, r, "refused operands");
        r.retract();
        stands(check, r, "retract");
        r.clear();
        stands(check, r, "clear");
        r.level(0);
        stands(check, r, "level");
        for (int n = 0; n < 4; n++) {
            r.retract();
            stands(check, r, "retract to none");
        }
        r.run();
        check.due("work(3) after a new run", r.work(3), 0);
        check.due("indicator(2) after a new run", r.indicator(2), false);
        check.due("printed() after a new run", r.printed(), 0);
    }

    private static void stands(Check check, ReportCompiler r, String call) {
        for (int w = 0; w <= 5; w++) {
            check.due("work(" + w + ") after " + call, r.work(w), w == 3 ? -13 : 0);
        }
        for (int i = 0; i <= 3; i++) {
            check.due("indicator(" + i + ") after " + call, r.indicator(i), i == 2);
        }
        check.due("printed() after " + call, r.printed(), 4);
        check.due("text after " + call, Report.shown(r), "-13 ");
    }
}
