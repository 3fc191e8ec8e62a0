/** Promises 4, 5 and 6: line, operands and retract. */
public final class LinesTest {
    private static final int BAD = ReportCompiler.BAD;
    private static final int FULL = ReportCompiler.FULL;

    public static void main(String[] args) {
        Check check = new Check();
        everyGoodLineIsTaken(check);
        wrongLinesAreRefused(check);
        fourteenAreFull(check);
        newLineHasZeroOperands(check);
        operandsAtTheEdges(check);
        wrongOperandsAreRefused(check);
        operandsOfOneLineAlone(check);
        retractTakesTheLast(check);
        check.end();
    }

    private static void everyGoodLineIsTaken(Check check) {
        for (int op = 0; op <= 9; op++) {
            int highest = op == Report.ON || op == Report.OFF ? 3 : 5;
            for (int w = -1; w <= 7; w++) {
                int want = w >= 0 && w <= highest ? 1 : BAD;
                check.due("line(0, 0, " + op + ", " + w + ")", new ReportCompiler().line(0, 0, op, w), want);
            }
        }
        for (int when = 0; when <= 3; when++) {
            for (int condition = 0; condition <= 8; condition++) {
                check.due("line(" + when + ", " + condition + ", 0, 0)",
                        new ReportCompiler().line(when, condition, 0, 0), 1);
            }
        }
    }

    private static void wrongLinesAreRefused(Check check) {
        ReportCompiler r = new ReportCompiler();
        refuseLine(check, r, -1, 0, 0, 0);
        refuseLine(check, r, 4, 0, 0, 0);
        refuseLine(check, r, 0, -1, 0, 0);
        refuseLine(check, r, 0, 9, 0, 0);
        refuseLine(check, r, 0, 0, -1, 0);
        refuseLine(check, r, 0, 0, 10, 0);
        for (int extreme : Report.EXTREMES) {
            refuseLine(check, r, extreme, 0, 0, 0);
            refuseLine(check, r, 0, extreme, 0, 0);
            refuseLine(check, r, 0, 0, extreme, 0);
            refuseLine(check, r, 0, 0, 0, extreme);
            refuseLine(check, r, 0, 0, 6, extreme);
        }
        check.due("retract() after refusals", r.retract(), BAD);
        check.due("the first good line", r.line(3, 8, 9, 5), 1);
        refuseLine(check, r, 3, 8, 7, 4);
        check.due("retract() after one line and a refusal", r.retract(), 0);
    }

    private static void refuseLine(Check check, ReportCompiler r, int when, int condition, int op, int w) {
        check.due("line(" + when + ", " + condition + ", " + op + ", " + w + ")",
                r.line(when, condition, op, w), BAD);
    }

    private static void fourteenAreFull(Check check) {
        ReportCompiler r = new ReportCompiler();
        for (int n = 1; n <= 14; n++) {
            check.due("line number " + n, r.line(3, 0, 1, 0), n);
            check.due("operands of line " + (n - 1), r.operands(n - 1, 0, 10, n), true);
        }
        check.due("a good line too many", r.line(3, 0, 1, 0), FULL);
        check.due("a wrong line too many", r.line(4, 9, 10, 6), FULL);
        check.due("operands of line 14", r.operands(14, 0, 0, 0), false);
        check.due("run() of 14 lines", r.run(), 14);
        check.due("the sum of 1 to 14", r.work(0), 105);
        check.due("retract() from 14", r.retract(), 13);
        check.due("a wrong line when there is room", r.line(4, 0, 0, 0), BAD);
        check.due("a good line when there is room", r.line(3, 0, 1, 0), 14);
    }

    private static void newLineHasZeroOperands(Check check) {
        ReportCompiler r = new ReportCompiler();
        r.line(3, 0, 0, 0);
        r.operands(0, 10, 0, 7);
        r.line(3, 0, 1, 1);
        r.run();
        check.due("x and y of a new line are work field 0", r.work(1), 14);

        r.operands(1, 10, 10, 5);
        r.run();
        check.due("the constant is 5", r.work(1), 10);
        r.retract();
        r.line(3, 0, 1, 1);
        r.run();
        check.due("a line in a retracted one's place has the sources 0", r.work(1), 14);
    }

    private static void operandsAtTheEdges(Check check) {
        ReportCompiler r = new ReportCompiler();
        r.line(0, 0, 2, 0);
        r.card(1, 2, 3, 4);
        check.due("operands(0, 10, 0, 999)", r.operands(0, 10, 0, 999), true);
        r.run();
        check.due("999 - 0", r.work(0), 999);
        check.due("operands(0, 0, 10, -999)", r.operands(0, 0, 10, -999), true);
        r.run();
        check.due("0 - -999", r.work(0), 999);
        check.due("operands(0, 9, 6, 0)", r.operands(0, 9, 6, 0), true);
        r.run();
        check.due("second - key", r.work(0), 3);
    }

    private static void wrongOperandsAreRefused(Check check) {
        ReportCompiler r = new ReportCompiler();
        r.line(3, 0, 1, 0);
        r.line(3, 0, 1, 1);
        r.operands(0, 10, 10, 21);
        refuseOperands(check, r, -1, 0, 0, 0);
        refuseOperands(check, r, 2, 0, 0, 0);
        refuseOperands(check, r, 0, -1, 10, 1);
        refuseOperands(check, r, 0, 11, 10, 1);
        refuseOperands(check, r, 0, 10, -1, 1);
        refuseOperands(check, r, 0, 10, 11, 1);
        refuseOperands(check, r, 0, 0, 0, 1000);
        refuseOperands(check, r, 0, 0, 0, -1000);
        for (int extreme : Report.EXTREMES) {
            refuseOperands(check, r, extreme, 0, 0, 0);
            refuseOperands(check, r, 0, extreme, 0, 0);
            refuseOperands(check, r, 0, 0, extreme, 0);
            refuseOperands(check, r, 0, 0, 0, extreme);
        }
        r.run();
        check.due("a refusal leaves the operands as they were", r.work(0), 42);
        r.retract();
        refuseOperands(check, r, 1, 0, 0, 0);
    }

    private static void refuseOperands(Check check, ReportCompiler r, int i, int x, int y, int c) {
        check.due("operands(" + i + ", " + x + ", " + y + ", " + c + ")", r.operands(i, x, y, c), false);
    }

    private static void operandsOfOneLineAlone(Check check) {
        ReportCompiler r = new ReportCompiler();
        for (int i = 0; i < 6; i++) {
            r.line(3, 0, 0, i);
        }
        for (int i = 0; i < 6; i++) {
            r.operands(i, 10, 10, i + 1);
        }
        r.operands(3, 10, 10, -77);
        r.run();
        for (int w = 0; w < 6; w++) {
            check.due("work(" + w + ")", r.work(w), w == 3 ? -77 : w + 1);
        }
    }

    private static void retractTakesTheLast(Check check) {
        ReportCompiler r = new ReportCompiler();
        Report.printConstant(r, 3, 0, 1);
        Report.printConstant(r, 3, 0, 2);
        Report.printConstant(r, 3, 0, 3);
        check.due("retract() from 3", r.retract(), 2);
        check.due("run() of 2 lines", r.run(), 2);
        check.due("the first two", Report.shown(r), "1 2 ");
        check.due("retract() from 2", r.retract(), 1);
        check.due("retract() from 1", r.retract(), 0);
        check.due("retract() from none", r.retract(), BAD);
        check.due("retract() from none again", r.retract(), BAD);
        check.due("run() of none", r.run(), 0);
        check.due("line after retracting all", r.line(3, 0, 9, 0), 1);
    }
}
