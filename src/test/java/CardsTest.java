/** Promises 2 and 3: card and clear. */
public final class CardsTest {
    private static final int BAD = ReportCompiler.BAD;
    private static final int FULL = ReportCompiler.FULL;

    public static void main(String[] args) {
        Check check = new Check();
        edgesAreTaken(check);
        wrongCardsAreRefused(check);
        sixteenAreFull(check);
        clearTakesAll(check);
        check.end();
    }

    private static void edgesAreTaken(Check check) {
        ReportCompiler r = new ReportCompiler();
        check.due("card(0, 0, -999, -999)", r.card(0, 0, -999, -999), 1);
        check.due("card(99, 99, 999, 999)", r.card(99, 99, 999, 999), 2);
        check.due("card(0, 99, -999, 999)", r.card(0, 99, -999, 999), 3);
        check.due("card(99, 0, 0, 0)", r.card(99, 0, 0, 0), 4);
        check.due("the same card again", r.card(99, 0, 0, 0), 5);
        for (int source = Report.KEY; source <= Report.SECOND; source++) {
            Report.print(r, Report.CARD, source);
        }
        r.run();
        check.due("the cards' numbers", Report.shown(r),
                "0 0 -999 -999 99 99 999 999 0 99 -999 999 99 0 0 0 99 0 0 0 ");
    }

    private static void wrongCardsAreRefused(Check check) {
        ReportCompiler r = new ReportCompiler();
        refuse(check, r, -1, 0, 0, 0);
        refuse(check, r, 100, 0, 0, 0);
        refuse(check, r, 0, -1, 0, 0);
        refuse(check, r, 0, 100, 0, 0);
        refuse(check, r, 0, 0, -1000, 0);
        refuse(check, r, 0, 0, 1000, 0);
        refuse(check, r, 0, 0, 0, -1000);
        refuse(check, r, 0, 0, 0, 1000);
        for (int extreme : Report.EXTREMES) {
            refuse(check, r, extreme, 0, 0, 0);
            refuse(check, r, 0, extreme, 0, 0);
            refuse(check, r, 0, 0, extreme, 0);
            refuse(check, r, 0, 0, 0, extreme);
        }
        check.due("the first good card", r.card(1, 2, 3, 4), 1);
        refuse(check, r, 100, 2, 3, 4);
        check.due("clear() after refusals", r.clear(), 1);
    }

    private static void refuse(Check check, ReportCompiler r, int key, int part, int first, int second) {
        check.due("card(" + key + ", " + part + ", " + first + ", " + second + ")",
                r.card(key, part, first, second), BAD);
    }

    private static void sixteenAreFull(Check check) {
        ReportCompiler r = new ReportCompiler();
        for (int n = 1; n <= 16; n++) {
            check.due("card number " + n, r.card(1, 1, n, 0), n);
        }
        check.due("a good card too many", r.card(1, 1, 1, 1), FULL);
        check.due("a wrong card too many", r.card(100, -1, 1000, -1000), FULL);
        Report.line(r, Report.CARD, Report.ALWAYS, Report.ADD, 0, 0, Report.FIRST);
        check.due("run() over 16 cards", r.run(), 16);
        check.due("the sum of 1 to 16", r.work(0), 136);
        check.due("clear() of 16", r.clear(), 16);
        check.due("a wrong card when there is room", r.card(100, 0, 0, 0), BAD);
        check.due("a good card when there is room", r.card(1, 1, 1, 1), 1);
    }

    private static void clearTakesAll(Check check) {
        ReportCompiler r = new ReportCompiler();
        Report.line(r, Report.CARD, Report.ALWAYS, Report.ADD, 0, 0, Report.FIRST);
        Report.line(r, Report.END, Report.ALWAYS, Report.ADD, 1, 1, Report.FIRST);
        r.card(1, 1, 5, 0);
        r.card(2, 2, 6, 0);
        check.due("run() over 2 cards", r.run(), 3);
        check.due("clear()", r.clear(), 2);
        check.due("clear() again", r.clear(), 0);
        check.due("run() without cards keeps the lines", r.run(), 1);
        check.due("work(0) without cards", r.work(0), 0);
        check.due("work(1) without a present card", r.work(1), 0);
        check.due("card after clear", r.card(3, 3, 7, 0), 1);
        r.run();
        check.due("work(0) of the new card alone", r.work(0), 7);
    }
}
