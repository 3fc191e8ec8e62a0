/** The sentences of promises 7 to 13 that name an edge, a refused call or a wrap-around; a method each. */
public final class EdgesOfAnswersTest {
    private static final int BAD = ReportCompiler.BAD;

    public static void main(String[] args) {
        Check check = new Check();
        runEmptiesTheText(check);
        runAnswersHowManyTimes(check);
        runCountsEachRunAlone(check);
        workOfTheLatestRun(check);
        workBad(check);
        indicatorOfTheLatestRun(check);
        indicatorFalse(check);
        printedNumber(check);
        printedGreatest(check);
        textFrom0(check);
        textCharacters(check);
        textIfThereIsNone(check);
        textAbove79(check);
        levelRefused(check);
        levelTrue(check);
        levelShowsInNoAnswer(check);
        productIsXTimesY(check);
        exactSumsAndDifferences(check);
        exactProducts(check);
        latestRunStands(check);
        latestRunStandsWhenFull(check);
        latestRunStandsWhenEmpty(check);
        check.end();
    }

    /** Has run with a text of so many ends of line, up to 101: six at each card, and the rest at the end. */
    private static ReportCompiler withText(int length) {
        ReportCompiler r = new ReportCompiler();
        for (int n = 0; n < length / 6; n++) {
            r.card(0, 0, 0, 0);
        }
        for (int i = 0; i < 6; i++) {
            r.line(Report.CARD, 0, Report.END_LINE, 0);
        }
        for (int i = 0; i < length % 6; i++) {
            r.line(Report.END, 0, Report.END_LINE, 0);
        }
        r.run();
        return r;
    }

    private static void runEmptiesTheText(Check check) {
        check.sentence("Promise 7: A run; the text is made empty first");
        int[] lengths = {0, 1, 5, 79, 80, 81, 101};
        for (int length : lengths) {
            ReportCompiler r = withText(length);
            r.run();
            check.due("printed() of the same run again", r.printed(), length);
            r.clear();
            for (int i = 0; i < 6 + length % 6; i++) {
                r.retract();
            }
            r.run();
            check.due("printed() of a run of no line", r.printed(), 0);
            for (int k = 0; k <= 101; k++) {
                check.due("text(" + k + ") of a run of no line", r.text(k), 0);
            }
        }
    }

    private static void runAnswersHowManyTimes(Check check) {
        check.sentence("Promise 7: Answers how many times a line was executed");
        for (int cards = 0; cards <= 16; cards++) {
            for (int lines = 0; lines <= 14; lines += 7) {
                for (int when = 0; when <= 3; when++) {
                    ReportCompiler r = new ReportCompiler();
                    for (int n = 0; n < cards; n++) {
                        r.card(0, n, 0, 0);
                    }
                    for (int i = 0; i < lines; i++) {
                        r.line(when, 0, i % 10, i % 4);
                    }
                    check.due("run() of " + lines + " lines with when " + when + " over " + cards + " parts",
                            r.run(), when == Report.END ? lines : lines * cards);
                }
            }
        }
        ReportCompiler r = new ReportCompiler();
        for (int condition = 0; condition <= 8; condition++) {
            r.line(Report.END, condition, Report.END_LINE, 0);
        }
        check.due("run() of all conditions with all indicators off", r.run(), 5);
    }

    private static void runCountsEachRunAlone(Check check) {
        check.sentence("Promise 7: how many times: of this run, not of those before");
        ReportCompiler r = withText(101);
        for (int n = 0; n < 3; n++) {
            check.due("run() again", r.run(), 101);
        }
        r.clear();
        check.due("run() without cards", r.run(), 5);
    }

    private static void workOfTheLatestRun(Check check) {
        check.sentence("Promise 8: A work field as the latest run left it");
        ReportCompiler r = new ReportCompiler();
        check.due("work(5) before a run", r.work(5), 0);
        Report.load(r, Report.END, 5, 999999);
        check.due("work(5) with lines but before a run", r.work(5), 0);
        r.run();
        check.due("work(5) after a run", r.work(5), 999999);
        check.due("work(5) asked again", r.work(5), 999999);
        Report.load(r, Report.END, 5, -999999);
        check.due("work(5) before the second run", r.work(5), 999999);
        r.run();
        check.due("work(5) after the second run", r.work(5), -999999);
        for (int i = 0; i < 8; i++) {
            r.retract();
        }
        r.run();
        check.due("work(5) after a run of no line", r.work(5), 0);
    }

    private static void workBad(Check check) {
        check.sentence("Promise 8: BAD for w outside 0..5");
        ReportCompiler fresh = new ReportCompiler();
        ReportCompiler r = new ReportCompiler();
        for (int w = 0; w <= 5; w++) {
            Report.line(r, Report.END, Report.ALWAYS, Report.SET, w, Report.C, 0, -7 - w);
        }
        r.run();
        for (int w = -70; w <= 70; w++) {
            boolean inside = w >= 0 && w <= 5;
            check.due("work(" + w + ") before a run", fresh.work(w), inside ? 0 : BAD);
            check.due("work(" + w + ")", r.work(w), inside ? -7 - w : BAD);
        }
        for (int extreme : Report.EXTREMES) {
            check.due("work(" + extreme + ")", r.work(extreme), BAD);
        }
    }

    private static void indicatorOfTheLatestRun(Check check) {
        check.sentence("Promise 9: Whether an indicator was on at the end of the latest run");
        for (int i = 0; i <= 3; i++) {
            ReportCompiler r = new ReportCompiler();
            check.due("indicator(" + i + ") before a run", r.indicator(i), false);
            r.card(1, 1, 1, 1);
            Report.line(r, Report.CARD, Report.ALWAYS, Report.ON, i);
            check.due("indicator(" + i + ") with a line but before a run", r.indicator(i), false);
            r.run();
            check.due("indicator(" + i + ") on at the end", r.indicator(i), true);
            Report.line(r, Report.END, Report.ALWAYS, Report.OFF, i);
            check.due("indicator(" + i + ") before the second run", r.indicator(i), true);
            r.run();
            check.due("indicator(" + i + ") on in between, off at the end", r.indicator(i), false);
            r.retract();
            r.run();
            check.due("indicator(" + i + ") on at the end again", r.indicator(i), true);
            r.clear();
            r.run();
            check.due("indicator(" + i + ") after a run without cards", r.indicator(i), false);
        }
    }

    private static void indicatorFalse(Check check) {
        check.sentence("Promise 9: false for i outside 0..3");
        ReportCompiler r = new ReportCompiler();
        for (int i = 0; i <= 3; i++) {
            Report.line(r, Report.END, Report.ALWAYS, Report.ON, i);
        }
        r.run();
        for (int i = -70; i <= 70; i++) {
            check.due("indicator(" + i + ") with all on", r.indicator(i), i >= 0 && i <= 3);
        }
        for (int extreme : Report.EXTREMES) {
            check.due("indicator(" + extreme + ") with all on", r.indicator(extreme), false);
        }
    }

    private static void printedNumber(Check check) {
        check.sentence("Promise 10: The number of characters of the text");
        check.due("printed() before a run", new ReportCompiler().printed(), 0);
        for (int length = 0; length <= 101; length++) {
            check.due("printed()", withText(length).printed(), length);
        }
    }

    private static void printedGreatest(Check check) {
        check.sentence("Promise 10: The number of characters, of the greatest text");
        ReportCompiler r = new ReportCompiler();
        Report.line(r, Report.CARD, Report.ALWAYS, Report.MULTIPLY, 0, Report.FIRST, Report.SECOND);
        for (int i = 1; i < 14; i++) {
            Report.print(r, Report.CARD, 0);
        }
        for (int n = 0; n < 16; n++) {
            r.card(0, 0, -999, 999);
        }
        check.due("run()", r.run(), 224);
        check.due("printed()", r.printed(), 16 * 13 * "-998001 ".length());
    }

    private static void textFrom0(Check check) {
        check.sentence("Promise 11: Character number k of the text, from 0");
        ReportCompiler r = new ReportCompiler();
        Report.print(r, Report.CARD, Report.FIRST);
        StringBuilder want = new StringBuilder();
        for (int n = 0; n < 16; n++) {
            want.append(-100 - 7 * n).append(' ');
            r.card(0, 0, -100 - 7 * n, 0);
        }
        r.run();
        for (int k = 0; k <= 79; k++) {
            check.due("text(" + k + ") of 80 characters", r.text(k), want.charAt(k));
        }
    }

    private static void textCharacters(Check check) {
        check.sentence("Promise 11: 45 for -, 48 to 57 for digits, 32 for a blank, 10 for an end of line");
        ReportCompiler r = new ReportCompiler();
        Report.printConstant(r, Report.END, Report.ALWAYS, -102);
        Report.line(r, Report.END, Report.ALWAYS, Report.END_LINE, 0);
        Report.printConstant(r, Report.END, Report.ALWAYS, 345);
        Report.printConstant(r, Report.END, Report.ALWAYS, -678);
        Report.printConstant(r, Report.END, Report.ALWAYS, 9);
        r.run();
        int[] want = {45, 49, 48, 50, 32, 10, 51, 52, 53, 32, 45, 54, 55, 56, 32, 57, 32, 0};
        for (int k = 0; k < want.length; k++) {
            check.due("text(" + k + ")", r.text(k), want[k]);
        }
    }

    private static void textIfThereIsNone(Check check) {
        check.sentence("Promise 11: 0 if there is none");
        int[] lengths = {0, 1, 2, 40, 78, 79, 80};
        for (int length : lengths) {
            ReportCompiler r = withText(length);
            for (int k = -20; k <= 100; k++) {
                check.due("text(" + k + ") of " + length, r.text(k), k >= 0 && k < length ? 10 : 0);
            }
            for (int extreme : Report.EXTREMES) {
                check.due("text(" + extreme + ") of " + length, r.text(extreme), 0);
            }
        }
        // What a longer text left must not show behind a shorter one.
        ReportCompiler r = withText(101);
        r.clear();
        r.run();
        for (int k = 0; k <= 100; k++) {
            check.due("text(" + k + ") of 5 after one of 101", r.text(k), k < 5 ? 10 : 0);
        }
    }

    private static void textAbove79(Check check) {
        check.sentence("Promise 11: 0 if k is above 79");
        for (int shift = 0; shift <= 7; shift++) {
            ReportCompiler r = new ReportCompiler();
            for (int n = 0; n < shift; n++) {
                Report.line(r, Report.CARD, 5, Report.END_LINE, 0);
            }
            Report.line(r, Report.CARD, Report.ALWAYS, Report.ON, 0);
            Report.line(r, Report.CARD, Report.ALWAYS, Report.MULTIPLY, 0, Report.FIRST, Report.SECOND);
            Report.print(r, Report.CARD, 0);
            for (int n = 0; n < 16; n++) {
                r.card(0, 0, -999, 999);
            }
            r.run();
            String whole = "\n".repeat(shift) + "-998001 ".repeat(16);
            check.due("printed()", r.printed(), whole.length());
            for (int k = 0; k < whole.length() + 5; k++) {
                check.due("text(" + k + ") of " + whole.length(), r.text(k), k <= 79 ? whole.charAt(k) : 0);
            }
            for (int extreme : Report.EXTREMES) {
                check.due("text(" + extreme + ") of " + whole.length(), r.text(extreme), 0);
            }
        }
    }

    private static void levelRefused(Check check) {
        check.sentence("Promise 12: k outside 0..1: refused, answers false");
        ReportCompiler r = new ReportCompiler();
        for (int k = -70; k <= 70; k++) {
            if (k != 0 && k != 1) {
                check.due("level(" + k + ")", r.level(k), false);
            }
        }
        for (int extreme : Report.EXTREMES) {
            check.due("level(" + extreme + ")", r.level(extreme), false);
        }
        Report.printConstant(r, Report.END, Report.ALWAYS, 5);
        check.due("run() after refused levels", r.run(), 1);
        check.due("text after refused levels", Report.shown(r), "5 ");
    }

    private static void levelTrue(Check check) {
        check.sentence("Promise 12: Else true");
        for (int first = 0; first <= 1; first++) {
            for (int second = 0; second <= 1; second++) {
                ReportCompiler r = new ReportCompiler();
                check.due("level(" + first + ")", r.level(first), true);
                r.level(2);
                check.due("level(" + second + ") after it", r.level(second), true);
                r.run();
                check.due("level(" + first + ") after a run", r.level(first), true);
            }
        }
    }

    private static void levelShowsInNoAnswer(Check check) {
        check.sentence("Promise 12: It shows in no answer");
        ReportCompiler never = new ReportCompiler();
        int[] levels = {0, 1, 0, 0, 2, 1, 1, -1, 0};
        ReportCompiler r = new ReportCompiler();
        fillMixed(never);
        fillMixed(r);
        for (int k : levels) {
            r.level(k);
            check.due("run() after level(" + k + ")", r.run(), never.run());
            sameAnswers(check, "a run at level(" + k + ")", r, never);
            r.level(1 - k);
            sameAnswers(check, "a run, and level(" + (1 - k) + ") after it", r, never);
        }
        check.due("clear()", r.clear(), never.clear());
        check.due("retract()", r.retract(), never.retract());
    }

    private static void sameAnswers(Check check, String state, ReportCompiler r, ReportCompiler never) {
        for (int w = 0; w <= 5; w++) {
            check.due("work(" + w + ") after " + state, r.work(w), never.work(w));
        }
        for (int i = 0; i <= 3; i++) {
            check.due("indicator(" + i + ") after " + state, r.indicator(i), never.indicator(i));
        }
        check.due("printed() after " + state, r.printed(), never.printed());
        check.due("text(9) after " + state, r.text(9), never.text(9));
    }

    /** Lines of every when and of most conditions and ops, out of order. */
    private static void fillMixed(ReportCompiler r) {
        for (int n = 0; n < 16; n++) {
            r.card(n / 2, n / 4, 60 * n - 450, 7 * n);
        }
        Report.line(r, Report.END, Report.ALWAYS, Report.PRINT, 0, 1);
        Report.line(r, Report.PART_BREAK, 2, Report.DIVIDE, 4, 0, 1);
        Report.line(r, Report.CARD, Report.ALWAYS, Report.COMPARE, 0, Report.FIRST, Report.SECOND);
        Report.line(r, Report.KEY_BREAK, Report.ALWAYS, Report.ADD, 1, 1, 0);
        Report.line(r, Report.CARD, 1, Report.ADD, 0, 0, Report.FIRST);
        Report.line(r, Report.PART_BREAK, Report.ALWAYS, Report.PRINT, 0, 1);
        Report.line(r, Report.CARD, 6, Report.MULTIPLY, 2, 0, Report.SECOND);
        Report.line(r, Report.KEY_BREAK, Report.ALWAYS, Report.SET, 0, Report.C, 0, 0);
        Report.line(r, Report.KEY_BREAK, 8, Report.PRINT, 0, 2);
        Report.line(r, Report.PART_BREAK, 5, Report.END_LINE, 0);
        Report.line(r, Report.END, 4, Report.SUBTRACT, 5, 1, 2);
        Report.line(r, Report.CARD, 3, Report.ON, 3);
    }

    private static void calculated(Check check, int op, int x, int y, int want) {
        for (int level = 0; level <= 1; level++) {
            check.due("op " + op + " of " + x + " and " + y, Report.calculated(level, op, 2, x, y).work(2), want);
            check.due("the same for x's field", Report.calculated(level, op, 0, x, y).work(0), want);
            check.due("the same for y's field", Report.calculated(level, op, 1, x, y).work(1), want);
        }
    }

    private static void productIsXTimesY(Check check) {
        check.sentence("Promise 13: Op 3 is the product: work field w becomes x times y");
        calculated(check, Report.MULTIPLY, 12, 34, 408);
        calculated(check, Report.MULTIPLY, -12, 34, -408);
        calculated(check, Report.MULTIPLY, -12, -34, 408);
        calculated(check, Report.MULTIPLY, 0, 0, 0);
        calculated(check, Report.MULTIPLY, 1, 1, 1);
        calculated(check, Report.MULTIPLY, 999, 999, 998001);
        calculated(check, Report.MULTIPLY, 2, 3, 6);
    }

    private static void exactSumsAndDifferences(Check check) {
        check.sentence("Promise 13: Sums, differences are worked out exactly, then cut (no wrapping)");
        calculated(check, Report.ADD, 999999, 999999, 999998);
        calculated(check, Report.ADD, -999999, -999999, -999998);
        calculated(check, Report.ADD, 999999, -999998, 1);
        calculated(check, Report.ADD, 600000, 400000, 0);
        calculated(check, Report.SUBTRACT, 999999, -999999, 999998);
        calculated(check, Report.SUBTRACT, -999999, 999999, -999998);
        calculated(check, Report.SUBTRACT, -600000, 400000, 0);
        calculated(check, Report.SUBTRACT, -600000, 400001, -1);
        // The number is cut after each op: what was cut away is not there for the next one.
        ReportCompiler r = Report.calculated(1, Report.ADD, 2, 999999, 3);
        Report.line(r, Report.END, Report.ALWAYS, Report.SUBTRACT, 2, 2, Report.C, 4);
        r.run();
        check.due("999999 + 3, cut, and then - 4", r.work(2), -2);
    }

    private static void exactProducts(Check check) {
        check.sentence("Promise 13: products are worked out exactly, then cut (no wrapping)");
        // 2 to the 31st and to the 32nd, and beside them, where 32 bits would wrap around.
        calculated(check, Report.MULTIPLY, 46340, 46341, 441940);
        calculated(check, Report.MULTIPLY, 46341, 46341, 488281);
        calculated(check, Report.MULTIPLY, 65536, 32768, 483648);
        calculated(check, Report.MULTIPLY, -65536, 32768, -483648);
        calculated(check, Report.MULTIPLY, -65537, 32768, -516416);
        calculated(check, Report.MULTIPLY, 65535, 65537, 967295);
        calculated(check, Report.MULTIPLY, 65536, 65536, 967296);
        calculated(check, Report.MULTIPLY, -65536, 65537, -32832);
        calculated(check, Report.MULTIPLY, 999999, 999999, 1);
        calculated(check, Report.MULTIPLY, 999999, -999999, -1);
        calculated(check, Report.MULTIPLY, -999999, 999998, -2);
        calculated(check, Report.MULTIPLY, 999983, 999979, 357);
        calculated(check, Report.MULTIPLY, 500000, 999998, 0);
        calculated(check, Report.MULTIPLY, 500001, 999999, 499999);
    }

    /** Has run with a card and three lines; work field 3, indicator 2 and the text have something to tell. */
    private static ReportCompiler hasRun() {
        ReportCompiler r = new ReportCompiler();
        r.card(4, 5, -6, 7);
        Report.line(r, Report.CARD, Report.ALWAYS, Report.SUBTRACT, 3, Report.FIRST, Report.SECOND);
        Report.line(r, Report.CARD, Report.ALWAYS, Report.ON, 2);
        Report.print(r, Report.CARD, 3);
        r.run();
        return r;
    }

    private static void stands(Check check, String call, ReportCompiler r) {
        for (int w = 0; w <= 5; w++) {
            check.due("work(" + w + ") after " + call, r.work(w), w == 3 ? -13 : 0);
        }
        for (int i = 0; i <= 3; i++) {
            check.due("indicator(" + i + ") after " + call, r.indicator(i), i == 2);
        }
        check.due("printed() after " + call, r.printed(), 4);
        check.due("text after " + call, Report.shown(r), "-13 ");
    }

    private static void latestRunStands(Check check) {
        check.sentence("Promise 13: clear, card, line, operands and retract change neither the text "
                + "nor what work and indicator tell of the latest run");
        ReportCompiler r = hasRun();
        stands(check, "run", r);
        check.due("card", r.card(9, 9, 9, 9), 2);
        stands(check, "card", r);
        check.due("a refused card", r.card(100, 9, 9, 9), BAD);
        stands(check, "a refused card", r);
        check.due("line", r.line(0, 0, 7, 2), 4);
        stands(check, "line", r);
        check.due("a refused line", r.line(0, 0, 7, 4), BAD);
        stands(check, "a refused line", r);
        check.due("operands", r.operands(0, 10, 10, 1), true);
        stands(check, "operands", r);
        check.due("refused operands", r.operands(0, 11, 10, 1), false);
        stands(check, "refused operands", r);
        check.due("retract", r.retract(), 3);
        stands(check, "retract", r);
        check.due("clear", r.clear(), 2);
        stands(check, "clear", r);
        check.due("run() anew", r.run(), 0);
        check.due("work(3) after it", r.work(3), 0);
        check.due("indicator(2) after it", r.indicator(2), false);
        check.due("printed() after it", r.printed(), 0);
    }

    private static void latestRunStandsWhenFull(Check check) {
        check.sentence("Promise 13: card and line change neither, up to FULL and at it");
        ReportCompiler r = hasRun();
        for (int n = 2; n <= 16; n++) {
            check.due("card", r.card(n, n, n, n), n);
        }
        stands(check, "16 cards", r);
        check.due("a card too many", r.card(1, 1, 1, 1), ReportCompiler.FULL);
        stands(check, "a card too many", r);
        for (int n = 4; n <= 14; n++) {
            check.due("line", r.line(3, 0, 9, 0), n);
        }
        stands(check, "14 lines", r);
        check.due("a line too many", r.line(3, 0, 9, 0), ReportCompiler.FULL);
        stands(check, "a line too many", r);
        check.due("operands of the last line", r.operands(13, 10, 10, 999), true);
        stands(check, "operands of the last line", r);
        check.due("clear()", r.clear(), 16);
        stands(check, "clear of 16", r);
    }

    private static void latestRunStandsWhenEmpty(Check check) {
        check.sentence("Promise 13: clear and retract change neither, down to none and at it");
        ReportCompiler r = hasRun();
        check.due("clear()", r.clear(), 1);
        stands(check, "clear", r);
        check.due("clear() of none", r.clear(), 0);
        stands(check, "clear of none", r);
        for (int left = 2; left >= 0; left--) {
            check.due("retract()", r.retract(), left);
            stands(check, "retract to " + left, r);
        }
        check.due("retract() from none", r.retract(), BAD);
        stands(check, "retract from none", r);
        check.due("operands of no line", r.operands(0, 0, 0, 0), false);
        stands(check, "operands of no line", r);
    }
}
