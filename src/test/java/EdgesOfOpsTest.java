/** The edges of the ops 0 to 9 in the document's 'Terms'; a method for each op or part of one. */
public final class EdgesOfOpsTest {
    public static void main(String[] args) {
        Check check = new Check();
        for (int level = 0; level <= 1; level++) {
            becomes(check, level);
            sum(check, level);
            difference(check, level);
            product(check, level);
            quotient(check, level);
            quotientBy0(check, level);
            quotientBy0TurnsOnAlone(check, level);
            targetIsAlsoASource(check, level);
            compareGreater(check, level);
            compareLess(check, level);
            compareEqual(check, level);
            compareLeavesTheRest(check, level);
            comesOn(check, level);
            goesOff(check, level);
            printDigits(check, level);
            printMinus(check, level);
            printBlank(check, level);
            endOfLine(check, level);
        }
        check.end();
    }

    /** Every target, and nothing but the target becomes another number. */
    private static void calculated(Check check, int level, int op, int x, int y, int want) {
        for (int w = 2; w <= 5; w++) {
            ReportCompiler r = Report.calculated(level, op, w, x, y);
            for (int other = 2; other <= 5; other++) {
                check.due("work(" + other + ") after op " + op + " of " + x + " and " + y + " for " + w,
                        r.work(other), other == w ? want : 0);
            }
            check.due("work(0), which is x", r.work(0), x);
            check.due("work(1), which is y", r.work(1), y);
            check.due("indicator(3)", r.indicator(3), op == Report.DIVIDE && y == 0);
            check.due("printed()", r.printed(), 0);
        }
    }

    private static void becomes(Check check, int level) {
        check.sentence("0 work field w becomes x");
        for (int number : Report.WORK_EDGES) {
            calculated(check, level, Report.SET, number, 7, number);
        }
        calculated(check, level, Report.SET, 5, 0, 5);
    }

    private static void sum(Check check, int level) {
        check.sentence("1 it becomes x + y (all cut)");
        calculated(check, level, Report.ADD, 0, 0, 0);
        calculated(check, level, Report.ADD, 999999, 0, 999999);
        calculated(check, level, Report.ADD, 999999, -999999, 0);
        calculated(check, level, Report.ADD, -999999, 0, -999999);
        calculated(check, level, Report.ADD, 1, 999999, 0);
        calculated(check, level, Report.ADD, -2, -999999, -1);
    }

    private static void difference(Check check, int level) {
        check.sentence("2 x - y (all cut)");
        calculated(check, level, Report.SUBTRACT, 0, 0, 0);
        calculated(check, level, Report.SUBTRACT, 999999, 999999, 0);
        calculated(check, level, Report.SUBTRACT, 0, 999999, -999999);
        calculated(check, level, Report.SUBTRACT, 0, -999999, 999999);
        calculated(check, level, Report.SUBTRACT, -1, 999999, 0);
        calculated(check, level, Report.SUBTRACT, 2, -999999, 1);
    }

    private static void product(Check check, int level) {
        check.sentence("3 x y (all cut)");
        calculated(check, level, Report.MULTIPLY, 0, 999999, 0);
        calculated(check, level, Report.MULTIPLY, -999999, 0, 0);
        calculated(check, level, Report.MULTIPLY, 1, -999999, -999999);
        calculated(check, level, Report.MULTIPLY, -1, -999999, 999999);
        calculated(check, level, Report.MULTIPLY, -999999, -999999, 1);
        calculated(check, level, Report.MULTIPLY, 1000, 1000, 0);
    }

    private static void quotient(Check check, int level) {
        check.sentence("4 x divided by y, cut towards 0");
        calculated(check, level, Report.DIVIDE, 999999, 1, 999999);
        calculated(check, level, Report.DIVIDE, 999999, -1, -999999);
        calculated(check, level, Report.DIVIDE, -999999, -1, 999999);
        calculated(check, level, Report.DIVIDE, 999999, 999999, 1);
        calculated(check, level, Report.DIVIDE, 999998, 999999, 0);
        calculated(check, level, Report.DIVIDE, -999998, 999999, 0);
        calculated(check, level, Report.DIVIDE, 999999, 2, 499999);
        calculated(check, level, Report.DIVIDE, -999999, 2, -499999);
        calculated(check, level, Report.DIVIDE, 999999, -2, -499999);
        calculated(check, level, Report.DIVIDE, -999999, -2, 499999);
        calculated(check, level, Report.DIVIDE, 5, 6, 0);
        calculated(check, level, Report.DIVIDE, 6, 6, 1);
        calculated(check, level, Report.DIVIDE, -7, 6, -1);
        calculated(check, level, Report.DIVIDE, 0, 1, 0);
    }

    private static void quotientBy0(Check check, int level) {
        check.sentence("if y is 0 it becomes 0, and indicator 3 comes on");
        for (int x : Report.WORK_EDGES) {
            calculated(check, level, Report.DIVIDE, x, 0, 0);
            calculated(check, level, Report.DIVIDE, x, 1, x);
            calculated(check, level, Report.DIVIDE, x, -1, -x);
        }
        ReportCompiler r = Report.atLevel(level);
        Report.line(r, Report.END, Report.ALWAYS, Report.SET, 5, Report.C, 0, 9);
        Report.line(r, Report.END, Report.ALWAYS, Report.DIVIDE, 5, Report.C, Report.KEY, 8);
        check.due("run()", r.run(), 2);
        check.due("8 divided by the key without a card", r.work(5), 0);
        check.due("indicator(3) after it", r.indicator(3), true);
    }

    private static void quotientBy0TurnsOnAlone(Check check, int level) {
        check.sentence("indicator 3 comes on, and no more than that");
        for (int i = 0; i <= 2; i++) {
            ReportCompiler r = Report.atLevel(level);
            Report.line(r, Report.END, Report.ALWAYS, Report.ON, i);
            Report.line(r, Report.END, Report.ALWAYS, Report.DIVIDE, 0, Report.C, 1, 1);
            Report.line(r, Report.END, Report.ALWAYS, Report.DIVIDE, 0, Report.C, Report.C, 1);
            r.run();
            for (int other = 0; other <= 3; other++) {
                check.due("indicator(" + other + ") with " + i + " on", r.indicator(other), other == i || other == 3);
            }
            check.due("work(0) after a good division that follows", r.work(0), 1);
        }
    }

    private static void targetIsAlsoASource(Check check, int level) {
        check.sentence("work field w becomes x + y, where w is x or y or both");
        int[] becomesX = {7, 5, 9, -14, -3};
        for (int op = Report.SET; op <= Report.DIVIDE; op++) {
            check.due("w is x, op " + op, Report.calculated(level, op, 0, 7, -2).work(0), becomesX[op]);
            check.due("w is y, op " + op, Report.calculated(level, op, 1, 7, -2).work(1), becomesX[op]);
        }
        int[] becomesBoth = {7, 14, 0, 49, 1};
        for (int op = Report.SET; op <= Report.DIVIDE; op++) {
            ReportCompiler r = Report.atLevel(level);
            Report.load(r, Report.END, 5, 7);
            Report.line(r, Report.END, Report.ALWAYS, op, 5, 5, 5);
            r.run();
            check.due("w is x and y, op " + op, r.work(5), becomesBoth[op]);
        }
    }

    /** Compares after all four indicators were turned on or off. */
    private static ReportCompiler compared(int level, int before, int x, int y) {
        ReportCompiler r = Report.atLevel(level);
        Report.load(r, Report.CARD, 0, x);
        Report.load(r, Report.CARD, 1, y);
        for (int i = 0; i <= 3; i++) {
            Report.line(r, Report.CARD, Report.ALWAYS, before, i);
        }
        Report.line(r, Report.CARD, Report.ALWAYS, Report.COMPARE, 5, 0, 1);
        r.card(1, 1, 1, 1);
        r.run();
        return r;
    }

    private static void comparedIndicator(Check check, int level, int i) {
        for (int x : Report.WORK_EDGES) {
            for (int y : Report.WORK_EDGES) {
                boolean want = i == 0 ? x > y : i == 1 ? x < y : x == y;
                check.due("indicator(" + i + "), off before, of " + x + " and " + y,
                        compared(level, Report.OFF, x, y).indicator(i), want);
                check.due("indicator(" + i + "), on before, of " + x + " and " + y,
                        compared(level, Report.ON, x, y).indicator(i), want);
            }
        }
    }

    private static void compareGreater(Check check, int level) {
        check.sentence("5 COMPARE: indicator 0 becomes on if x > y, else off");
        comparedIndicator(check, level, 0);
    }

    private static void compareLess(Check check, int level) {
        check.sentence("5 COMPARE: indicator 1 so if x < y");
        comparedIndicator(check, level, 1);
    }

    private static void compareEqual(Check check, int level) {
        check.sentence("5 COMPARE: indicator 2 if x = y");
        comparedIndicator(check, level, 2);
    }

    private static void compareLeavesTheRest(Check check, int level) {
        check.sentence("5 COMPARE: indicators 0, 1 and 2, and nothing else");
        int[] others = {4, 5, 6};
        for (int y : others) {
            check.due("indicator(3), off before", compared(level, Report.OFF, 5, y).indicator(3), false);
            check.due("indicator(3), on before", compared(level, Report.ON, 5, y).indicator(3), true);
            check.due("work(0)", compared(level, Report.ON, 5, y).work(0), 5);
            check.due("work(1)", compared(level, Report.ON, 5, y).work(1), y);
            check.due("work(5)", compared(level, Report.ON, 5, y).work(5), 0);
            check.due("printed()", compared(level, Report.ON, 5, y).printed(), 0);
        }
    }

    private static void turned(Check check, int level, int before, int op, int w) {
        ReportCompiler r = Report.atLevel(level);
        for (int i = 0; i <= 3; i++) {
            Report.line(r, Report.END, Report.ALWAYS, before, i);
        }
        Report.line(r, Report.END, Report.ALWAYS, op, w);
        check.due("run()", r.run(), 5);
        for (int i = 0; i <= 3; i++) {
            check.due("indicator(" + i + ") after op " + op + " for " + w + " and op " + before + " for all",
                    r.indicator(i), (i == w ? op : before) == Report.ON);
            check.due("work(" + i + ") after it", r.work(i), 0);
        }
    }

    private static void comesOn(Check check, int level) {
        check.sentence("6 indicator w (0 to 3) comes on");
        for (int w = 0; w <= 3; w++) {
            turned(check, level, Report.OFF, Report.ON, w);
            turned(check, level, Report.ON, Report.ON, w);
        }
        check.due("line(0, 0, 6, 4)", Report.atLevel(level).line(0, 0, 6, 4), ReportCompiler.BAD);
        check.due("line(0, 0, 6, -1)", Report.atLevel(level).line(0, 0, 6, -1), ReportCompiler.BAD);
    }

    private static void goesOff(Check check, int level) {
        check.sentence("7 it goes off");
        for (int w = 0; w <= 3; w++) {
            turned(check, level, Report.ON, Report.OFF, w);
            turned(check, level, Report.OFF, Report.OFF, w);
        }
        check.due("line(0, 0, 7, 4)", Report.atLevel(level).line(0, 0, 7, 4), ReportCompiler.BAD);
        check.due("line(0, 0, 7, -1)", Report.atLevel(level).line(0, 0, 7, -1), ReportCompiler.BAD);
    }

    private static void printed(Check check, int level, int number) {
        ReportCompiler r = Report.atLevel(level);
        Report.load(r, Report.END, 3, number);
        Report.print(r, Report.END, 3);
        r.run();
        check.due("PRINT of " + number, Report.shown(r), number + " ");
        check.due("printed() of " + number, r.printed(), (number + " ").length());
        check.due("work(3) after PRINT", r.work(3), number);
        check.due("work(0) after PRINT", r.work(0), 0);
    }

    private static void printDigits(Check check, int level) {
        check.sentence("8 PRINT: the digits of x");
        int[] numbers = {0, 1, 8, 9, 11, 12, 90, 98, 101, 110, 102030, 203040, 500005, 908070, 123456, 654321, 700000};
        for (int number : numbers) {
            printed(check, level, number);
        }
        // One digit more begins at each power of ten.
        for (int power = 10; power <= 1000000; power *= 10) {
            printed(check, level, power - 1);
            if (power < 1000000) {
                printed(check, level, power);
                printed(check, level, power + 1);
            }
        }
    }

    private static void printMinus(Check check, int level) {
        check.sentence("after a - if it is below 0");
        int[] numbers = {1, 0, -1, -9, -10, -99, -100, -101, -999, -1000, -9999, -10000, -99999, -100000, -999999};
        for (int number : numbers) {
            printed(check, level, number);
        }
        ReportCompiler r = Report.calculated(level, Report.SUBTRACT, 2, -999999, 1);
        Report.print(r, Report.END, 2);
        r.run();
        check.due("PRINT of what is left of -1000000", Report.shown(r), "0 ");
    }

    private static void printBlank(Check check, int level) {
        check.sentence("and then a blank are added to the text");
        ReportCompiler r = Report.atLevel(level);
        Report.printConstant(r, Report.END, Report.ALWAYS, 0);
        r.run();
        check.due("text(0) of one number", r.text(0), 48);
        check.due("text(1) of one number", r.text(1), 32);
        check.due("text(2) of one number", r.text(2), 0);
        Report.printConstant(r, Report.END, Report.ALWAYS, -5);
        Report.printConstant(r, Report.END, Report.ALWAYS, 67);
        r.run();
        check.due("three numbers", Report.shown(r), "0 -5 67 ");
    }

    private static void endOfLine(Check check, int level) {
        check.sentence("9 an end of line is added to the text");
        ReportCompiler r = Report.atLevel(level);
        for (int w = 0; w <= 5; w++) {
            Report.line(r, Report.END, Report.ALWAYS, Report.END_LINE, w, Report.C, Report.C, 77);
        }
        check.due("run()", r.run(), 6);
        check.due("six ends of line", Report.shown(r), "\n\n\n\n\n\n");
        check.due("printed()", r.printed(), 6);
        for (int w = 0; w <= 5; w++) {
            check.due("work(" + w + ")", r.work(w), 0);
        }
        Report.printConstant(r, Report.END, Report.ALWAYS, 3);
        Report.line(r, Report.END, Report.ALWAYS, Report.END_LINE, 0);
        r.run();
        check.due("an end of line after a number", Report.shown(r), "\n\n\n\n\n\n3 \n");
    }
}
