/** Promise 1, and what work, indicator and text answer before there was a run. */
public final class NewObjectTest {
    public static void main(String[] args) {
        Check check = new Check();
        nothingHasBeenRun(check);
        noCardsAndNoLines(check);
        objectsAreApart(check);
        check.end();
    }

    private static void nothingHasBeenRun(Check check) {
        ReportCompiler r = new ReportCompiler();
        for (int w = 0; w <= 5; w++) {
            check.due("new work(" + w + ")", r.work(w), 0);
        }
        for (int i = 0; i <= 3; i++) {
            check.due("new indicator(" + i + ")", r.indicator(i), false);
        }
        check.due("new printed()", r.printed(), 0);
        for (int k = 0; k <= 80; k++) {
            check.due("new text(" + k + ")", r.text(k), 0);
        }
    }

    private static void noCardsAndNoLines(Check check) {
        check.due("new clear()", new ReportCompiler().clear(), 0);
        check.due("new retract()", new ReportCompiler().retract(), ReportCompiler.BAD);
        check.due("new operands(0, 0, 0, 0)", new ReportCompiler().operands(0, 0, 0, 0), false);
        check.due("new run()", new ReportCompiler().run(), 0);
        check.due("new card(0, 0, 0, 0)", new ReportCompiler().card(0, 0, 0, 0), 1);
        check.due("new line(0, 0, 0, 0)", new ReportCompiler().line(0, 0, 0, 0), 1);
    }

    private static void objectsAreApart(Check check) {
        ReportCompiler used = new ReportCompiler();
        used.card(1, 1, 1, 1);
        Report.line(used, Report.CARD, Report.ALWAYS, Report.ADD, 0, Report.FIRST, Report.FIRST);
        Report.line(used, Report.CARD, Report.ALWAYS, Report.ON, 0);
        Report.print(used, Report.CARD, Report.FIRST);
        used.run();
        nothingHasBeenRun(check);
        noCardsAndNoLines(check);
        check.due("work(0) of the used one", used.work(0), 2);
    }
}
