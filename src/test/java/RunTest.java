/** Promise 7, with the course of a run, the conditions, the sources and the ops of the Terms; at both levels. */
public final class RunTest {
    public static void main(String[] args) {
        Check check = new Check();
        for (int level = 0; level <= 1; level++) {
            breaksComeInTheirOrder(check, level);
            breaksSeeTheCardBefore(check, level);
            linesOfOneWhenKeepTheirOrder(check, level);
            conditions(check, level);
            conditionIsLookedAtInItsMoment(check, level);
            sources(check, level);
            withoutCards(check, level);
            arithmetic(check, level);
            divisionByZero(check, level);
            compare(check, level);
            onAndOff(check, level);
            print(check, level);
            runsBeginAnew(check, level);
            greatestRun(check, level);
        }
        check.end();
    }

    private static ReportCompiler tellingSections(int level) {
        ReportCompiler r = Report.atLevel(level);
        // Written against the order of execution, so that order comes from when alone.
        for (int when = 3; when >= 0; when--) {
            Report.printConstant(r, when, Report.ALWAYS, when);
        }
        return r;
    }

    private static void breaksComeInTheirOrder(Check check, int level) {
        sections(check, level, "3 ");
        sections(check, level, "0 1 2 3 ", 1, 1);
        sections(check, level, "0 0 1 2 3 ", 1, 1, 1, 1);
        sections(check, level, "0 1 0 1 2 3 ", 1, 1, 2, 1);
        sections(check, level, "0 1 2 0 1 2 3 ", 1, 1, 1, 2);
        sections(check, level, "0 1 2 0 1 2 3 ", 1, 1, 2, 2);
        sections(check, level, "0 1 0 1 0 1 2 3 ", 1, 1, 2, 1, 1, 1);
        sections(check, level, "0 1 2 0 1 2 0 1 2 3 ", 0, 0, 0, 99, 0, 0);
        // A card with key 0 and part 0 differs from no card at all.
        sections(check, level, "0 1 0 1 2 3 ", 0, 0, 1, 0);
    }

    private static void sections(Check check, int level, String want, int... keysAndParts) {
        ReportCompiler r = tellingSections(level);
        for (int n = 0; n < keysAndParts.length; n += 2) {
            r.card(keysAndParts[n], keysAndParts[n + 1], 0, 0);
        }
        check.due("run()", r.run(), want.length() / 2);
        check.due("sections", Report.shown(r), want);
    }

    private static void breaksSeeTheCardBefore(Check check, int level) {
        ReportCompiler r = Report.atLevel(level);
        Report.print(r, Report.KEY_BREAK, Report.FIRST);
        Report.print(r, Report.PART_BREAK, Report.SECOND);
        Report.print(r, Report.END, Report.KEY);
        r.card(1, 1, 11, 12);
        r.card(2, 1, 21, 22);
        r.card(3, 2, 31, 32);
        r.run();
        check.due("breaks", Report.shown(r), "11 21 22 31 32 3 ");
    }

    private static void linesOfOneWhenKeepTheirOrder(Check check, int level) {
        ReportCompiler r = Report.atLevel(level);
        int[] whens = {2, 0, 3, 1, 0, 2, 1, 3, 0, 1, 2, 3};
        for (int i = 0; i < whens.length; i++) {
            Report.printConstant(r, whens[i], Report.ALWAYS, i);
        }
        r.card(1, 1, 0, 0);
        check.due("run()", r.run(), 12);
        check.due("order", Report.shown(r), "1 4 8 3 6 9 0 5 10 2 7 11 ");
    }

    private static void conditions(Check check, int level) {
        for (int on = 0; on <= 3; on++) {
            ReportCompiler r = Report.atLevel(level);
            Report.line(r, Report.END, Report.ALWAYS, Report.ON, on);
            for (int condition = 0; condition <= 8; condition++) {
                Report.printConstant(r, Report.END, condition, condition);
            }
            StringBuilder want = new StringBuilder("0 ").append(on + 1).append(' ');
            for (int i = 0; i <= 3; i++) {
                want.append(i == on ? "" : i + 5 + " ");
            }
            check.due("run() with indicator " + on + " on", r.run(), 6);
            check.due("conditions with indicator " + on + " on", Report.shown(r), want.toString());
        }
    }

    private static void conditionIsLookedAtInItsMoment(Check check, int level) {
        ReportCompiler r = Report.atLevel(level);
        Report.line(r, Report.END, 5, Report.ON, 0);
        Report.line(r, Report.END, 5, Report.ON, 1);
        Report.line(r, Report.END, 1, Report.OFF, 0);
        Report.line(r, Report.END, 5, Report.ON, 2);
        check.due("run()", r.run(), 3);
        check.due("indicator(0)", r.indicator(0), false);
        check.due("indicator(1)", r.indicator(1), false);
        check.due("indicator(2)", r.indicator(2), true);
    }

    private static void sources(Check check, int level) {
        ReportCompiler r = Report.atLevel(level);
        for (int w = 0; w <= 5; w++) {
            Report.line(r, Report.CARD, Report.ALWAYS, Report.SET, w, Report.C, 0, 100 + w);
        }
        int[] numbers = {100, 101, 102, 103, 104, 105, 17, 18, -19, 20, -21};
        r.card(17, 18, -19, 20);
        r.line(0, 0, Report.PRINT, 0);
        r.line(0, 0, Report.ADD, 0);
        for (int source = 0; source <= 10; source++) {
            r.operands(6, source, 0, -21);
            r.operands(7, Report.C, source, -21);
            r.run();
            check.due("x as source " + source, Report.shown(r), numbers[source] + " ");
            check.due("y as source " + source, r.work(0), -21 + numbers[source]);
        }
    }

    private static void withoutCards(Check check, int level) {
        ReportCompiler r = tellingSections(level);
        for (int source = Report.KEY; source <= Report.SECOND; source++) {
            Report.print(r, Report.END, source);
        }
        check.due("run() without cards", r.run(), 5);
        check.due("text without cards", Report.shown(r), "3 0 0 0 0 ");
        r.card(1, 2, 3, 4);
        r.run();
        r.clear();
        check.due("run() after clear", r.run(), 5);
        check.due("text after clear", Report.shown(r), "3 0 0 0 0 ");
    }

    private static void arithmetic(Check check, int level) {
        calculated(check, level, Report.SET, 7, -3, 7);
        calculated(check, level, Report.ADD, 7, -3, 4);
        calculated(check, level, Report.SUBTRACT, 7, -3, 10);
        calculated(check, level, Report.MULTIPLY, 7, -3, -21);
        calculated(check, level, Report.DIVIDE, 7, 3, 2);
        calculated(check, level, Report.DIVIDE, -7, 3, -2);
        calculated(check, level, Report.DIVIDE, 7, -3, -2);
        calculated(check, level, Report.DIVIDE, -7, -3, 2);
        calculated(check, level, Report.DIVIDE, -2, 3, 0);
        calculated(check, level, Report.DIVIDE, 0, -5, 0);
        calculated(check, level, Report.DIVIDE, 999, -1, -999);
    }

    private static void calculated(Check check, int level, int op, int x, int y, int want) {
        ReportCompiler r = Report.atLevel(level);
        r.card(0, 0, x, y);
        Report.line(r, Report.CARD, Report.ALWAYS, op, 4, Report.FIRST, Report.SECOND);
        check.due("run()", r.run(), 1);
        check.due("op " + op + " of " + x + " and " + y, r.work(4), want);
        check.due("work(0) beside it", r.work(0), 0);
        for (int i = 0; i <= 3; i++) {
            check.due("indicator(" + i + ") after op " + op, r.indicator(i), false);
        }
        check.due("printed() after op " + op, r.printed(), 0);
    }

    private static void divisionByZero(Check check, int level) {
        ReportCompiler r = Report.atLevel(level);
        Report.line(r, Report.END, Report.ALWAYS, Report.SET, 2, Report.C, 0, 55);
        Report.line(r, Report.END, Report.ALWAYS, Report.DIVIDE, 2, 2, 0);
        check.due("run()", r.run(), 2);
        check.due("55 divided by 0", r.work(2), 0);
        check.due("indicator(3) after it", r.indicator(3), true);
        Report.line(r, Report.END, Report.ALWAYS, Report.DIVIDE, 3, Report.C, Report.C, 8);
        r.run();
        check.due("8 divided by 8", r.work(3), 1);
        check.due("a good division leaves indicator(3) on", r.indicator(3), true);
        Report.line(r, Report.END, Report.ALWAYS, Report.OFF, 3);
        r.run();
        check.due("indicator(3) after op 7", r.indicator(3), false);
        for (int i = 0; i <= 2; i++) {
            check.due("indicator(" + i + ")", r.indicator(i), false);
        }
    }

    private static void compare(Check check, int level) {
        int[] numbers = {-999, -1, 0, 1, 999};
        for (int x : numbers) {
            for (int y : numbers) {
                ReportCompiler r = Report.atLevel(level);
                // All three are on before, so that a comparison that only turns on is seen.
                Report.line(r, Report.CARD, Report.ALWAYS, Report.ON, 0);
                Report.line(r, Report.CARD, Report.ALWAYS, Report.ON, 1);
                Report.line(r, Report.CARD, Report.ALWAYS, Report.ON, 2);
                Report.line(r, Report.CARD, Report.ALWAYS, Report.COMPARE, 5, Report.FIRST, Report.SECOND);
                r.card(0, 0, x, y);
                r.run();
                check.due(x + " > " + y, r.indicator(0), x > y);
                check.due(x + " < " + y, r.indicator(1), x < y);
                check.due(x + " = " + y, r.indicator(2), x == y);
                check.due("indicator(3) beside it", r.indicator(3), false);
                check.due("work(5) after compare", r.work(5), 0);
            }
        }
    }

    private static void onAndOff(Check check, int level) {
        for (int w = 0; w <= 3; w++) {
            ReportCompiler r = Report.atLevel(level);
            Report.line(r, Report.END, Report.ALWAYS, Report.ON, w);
            r.run();
            for (int i = 0; i <= 3; i++) {
                check.due("indicator(" + i + ") after op 6 with " + w, r.indicator(i), i == w);
            }
            for (int i = 0; i <= 3; i++) {
                Report.line(r, Report.END, Report.ALWAYS, Report.ON, i);
            }
            Report.line(r, Report.END, Report.ALWAYS, Report.OFF, w);
            r.run();
            for (int i = 0; i <= 3; i++) {
                check.due("indicator(" + i + ") after op 7 with " + w, r.indicator(i), i != w);
            }
        }
    }

    private static void print(Check check, int level) {
        int[] numbers = {0, 1, -1, 9, 10, -10, 99, 100, 101, -109, 990, 999, -999, 500};
        for (int number : numbers) {
            ReportCompiler r = Report.atLevel(level);
            Report.printConstant(r, Report.END, Report.ALWAYS, number);
            Report.line(r, Report.END, Report.ALWAYS, Report.END_LINE, 5);
            check.due("run()", r.run(), 2);
            check.due("PRINT of " + number, Report.shown(r), number + " \n");
            check.due("printed() of " + number, r.printed(), (number + " \n").length());
        }
        long[] products = {999L * 999, 999L * 100, -999L * 11, 200L * 500, -100L * 100, -999L * 999};
        int[][] factors = {{999, 999}, {999, 100}, {-999, 11}, {200, 500}, {-100, 100}, {-999, 999}};
        for (int n = 0; n < factors.length; n++) {
            ReportCompiler r = Report.atLevel(level);
            r.card(0, 0, factors[n][0], factors[n][1]);
            Report.line(r, Report.CARD, Report.ALWAYS, Report.MULTIPLY, 0, Report.FIRST, Report.SECOND);
            Report.print(r, Report.CARD, 0);
            r.run();
            check.due("PRINT of " + products[n], Report.shown(r), products[n] + " ");
        }
    }

    private static void runsBeginAnew(Check check, int level) {
        ReportCompiler r = Report.atLevel(level);
        r.card(1, 1, 5, 0);
        Report.line(r, Report.CARD, Report.ALWAYS, Report.ADD, 0, 0, Report.FIRST);
        Report.line(r, Report.CARD, 5, Report.ON, 0);
        Report.print(r, Report.CARD, 0);
        for (int n = 1; n <= 3; n++) {
            check.due("run() number " + n, r.run(), 3);
            check.due("work(0) after run " + n, r.work(0), 5);
            check.due("text after run " + n, Report.shown(r), "5 ");
            check.due("printed() after run " + n, r.printed(), 2);
        }
        r.retract();
        r.retract();
        check.due("run() of one line", r.run(), 1);
        check.due("indicator(0) is off again", r.indicator(0), false);
        check.due("the text is empty again", r.printed(), 0);
        check.due("text(0) of the empty text", r.text(0), 0);
    }

    private static void greatestRun(Check check, int level) {
        ReportCompiler r = Report.atLevel(level);
        for (int n = 0; n < 16; n++) {
            r.card(n, n, n, n);
        }
        for (int i = 0; i < 14; i++) {
            Report.printConstant(r, i % 3, Report.ALWAYS, -999);
        }
        check.due("run() of 14 lines, 16 times each", r.run(), 224);
        check.due("printed() of it", r.printed(), 224 * 5);
    }
}
