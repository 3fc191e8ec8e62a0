/** Promises 8 to 12: work, indicator, printed, text and level. */
public final class AnswersTest {
    private static final int BAD = ReportCompiler.BAD;

    public static void main(String[] args) {
        Check check = new Check();
        workOfEachField(check);
        indicatorOfEach(check);
        textUpToItsEnd(check);
        textAboveItsBound(check);
        levelTakesTwo(check);
        levelShowsInNoAnswer(check);
        check.end();
    }

    private static void workOfEachField(Check check) {
        ReportCompiler r = new ReportCompiler();
        for (int w = 0; w <= 5; w++) {
            Report.line(r, Report.END, Report.ALWAYS, Report.SET, w, Report.C, 0, 7 - 3 * w);
        }
        r.run();
        for (int w = 0; w <= 5; w++) {
            check.due("work(" + w + ")", r.work(w), 7 - 3 * w);
        }
        check.due("work(-1)", r.work(-1), BAD);
        check.due("work(6)", r.work(6), BAD);
        for (int extreme : Report.EXTREMES) {
            check.due("work(" + extreme + ")", r.work(extreme), BAD);
        }
        check.due("work(0) asked again", r.work(0), 7);
    }

    private static void indicatorOfEach(Check check) {
        ReportCompiler r = new ReportCompiler();
        for (int i = 0; i <= 3; i++) {
            Report.line(r, Report.END, Report.ALWAYS, Report.ON, i);
        }
        r.run();
        for (int i = -2; i <= 6; i++) {
            check.due("indicator(" + i + ")", r.indicator(i), i >= 0 && i <= 3);
        }
        for (int extreme : Report.EXTREMES) {
            check.due("indicator(" + extreme + ")", r.indicator(extreme), false);
        }
    }

    private static void textUpToItsEnd(Check check) {
        ReportCompiler r = new ReportCompiler();
        Report.printConstant(r, Report.END, Report.ALWAYS, -120);
        Report.line(r, Report.END, Report.ALWAYS, Report.END_LINE, 0);
        Report.printConstant(r, Report.END, Report.ALWAYS, 9);
        r.run();
        int[] want = {45, 49, 50, 48, 32, 10, 57, 32};
        check.due("printed()", r.printed(), want.length);
        for (int k = 0; k < want.length; k++) {
            check.due("text(" + k + ")", r.text(k), want[k]);
        }
        check.due("text(8)", r.text(8), 0);
        check.due("text(79)", r.text(79), 0);
        check.due("text(-1)", r.text(-1), 0);
        for (int extreme : Report.EXTREMES) {
            check.due("text(" + extreme + ")", r.text(extreme), 0);
        }
        // A shorter text must not show the characters of the longer one before it.
        r.retract();
        r.retract();
        r.run();
        check.due("printed() of the shorter text", r.printed(), 5);
        check.due("text(4) of the shorter text", r.text(4), 32);
        check.due("text(5) of the shorter text", r.text(5), 0);
    }

    private static void textAboveItsBound(Check check) {
        ReportCompiler r = new ReportCompiler();
        Report.print(r, Report.CARD, Report.FIRST);
        for (int n = 1; n <= 16; n++) {
            r.card(1, 1, -100 - n, 0);
            r.run();
            check.due("printed() of " + n + " numbers", r.printed(), 5 * n);
        }
        check.due("text(78) of 80 characters", r.text(78), '6');
        check.due("text(79) of 80 characters", r.text(79), ' ');
        check.due("text(80) of 80 characters", r.text(80), 0);

        Report.line(r, Report.END, Report.ALWAYS, Report.END_LINE, 0);
        r.run();
        check.due("printed() of 81 characters", r.printed(), 81);
        check.due("text(79) of 81 characters", r.text(79), ' ');
        check.due("text(80) of 81 characters", r.text(80), 0);

        Report.print(r, Report.CARD, Report.FIRST);
        r.run();
        check.due("printed() of 161 characters", r.printed(), 161);
        check.due("text of 161 characters", Report.shown(r),
                "-101 -101 -102 -102 -103 -103 -104 -104 -105 -105 -106 -106 -107 -107 -108 -108 ");
        check.due("text(160) of 161 characters", r.text(160), 0);
    }

    private static void levelTakesTwo(Check check) {
        ReportCompiler r = new ReportCompiler();
        for (int k = -2; k <= 3; k++) {
            check.due("level(" + k + ")", r.level(k), k == 0 || k == 1);
        }
        for (int extreme : Report.EXTREMES) {
            check.due("level(" + extreme + ")", r.level(extreme), false);
        }
        check.due("level(0)", r.level(0), true);
        check.due("level(0) again", r.level(0), true);
        check.due("level(1)", r.level(1), true);
    }

    private static void levelShowsInNoAnswer(Check check) {
        ReportCompiler r = new ReportCompiler();
        int[] whens = {3, 1, 0, 2, 1, 0};
        for (int i = 0; i < whens.length; i++) {
            Report.printConstant(r, whens[i], Report.ALWAYS, i);
        }
        Report.line(r, Report.CARD, 5, Report.ON, 0);
        Report.line(r, Report.CARD, Report.ALWAYS, Report.ADD, 1, 1, Report.FIRST);
        r.card(1, 1, 5, 0);
        r.card(2, 1, 6, 0);
        String want = "2 5 1 4 2 5 1 4 3 0 ";
        int[] levels = {1, 0, 2, 1, 0, -1, 1};
        check.due("run() at the first level", r.run(), 13);
        check.due("text at the first level", Report.shown(r), want);
        for (int k : levels) {
            r.level(k);
            check.due("text after level(" + k + ")", Report.shown(r), want);
            check.due("work(1) after level(" + k + ")", r.work(1), 11);
            check.due("indicator(0) after level(" + k + ")", r.indicator(0), true);
            check.due("run() after level(" + k + ")", r.run(), 13);
            check.due("text of a run after level(" + k + ")", Report.shown(r), want);
            check.due("work(1) of a run after level(" + k + ")", r.work(1), 11);
        }
    }
}
