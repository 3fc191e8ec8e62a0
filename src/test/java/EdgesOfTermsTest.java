/** The edges that 'What it is' and 'Terms' name for calls, cards, fields, cutting, lines and sources; a method each. */
public final class EdgesOfTermsTest {
    private static final int BAD = ReportCompiler.BAD;
    private static final int FULL = ReportCompiler.FULL;

    public static void main(String[] args) {
        Check check = new Check();
        for (int level = 0; level <= 1; level++) {
            callsUpTo512(check, level);
            cardsUpTo16(check, level);
            keysAndParts(check, level);
            amounts(check, level);
            workFields(check, level);
            indicators(check, level);
            cutSums(check, level);
            cutProducts(check, level);
            linesUpTo14(check, level);
            linesAreNumberedFrom0(check, level);
            whenConditionAndNumber(check, level);
            sourcesAndConstant(check, level);
            sourcesOfWorkFields(check, level);
            sourcesOfThePresentCard(check, level);
            sourcesWithoutACard(check, level);
            sourceOfTheConstant(check, level);
        }
        check.end();
    }

    private static void callsUpTo512(Check check, int level) {
        check.sentence("An object is used for at most 512 calls after it has been made");
        ReportCompiler r = Report.atLevel(level);
        int calls = 1;
        for (int n = 1; n <= 16; n++) {
            r.card(n, n, n, -n);
            calls++;
        }
        for (int i = 0; i < 14; i++) {
            Report.line(r, Report.CARD, Report.ALWAYS, Report.ADD, 0, 0, Report.FIRST);
            calls += 2;
        }
        while (calls < 508) {
            check.due("run() as call " + (calls + 1), r.run(), 224);
            calls++;
        }
        check.due("card as call 509", r.card(0, 0, 0, 0), FULL);
        check.due("retract() as call 510", r.retract(), 13);
        check.due("run() as call 511", r.run(), 208);
        check.due("work(0) as call 512", r.work(0), 13 * 136);
        // What later calls answer is free, but LANGUAGE.md lets none of them throw.
        for (int later = 0; later < 1000; later++) {
            r.run();
            r.line(later % 5 - 1, 0, later % 12 - 1, later % 7);
            r.operands(later % 16 - 1, later % 12, 0, later);
            r.text(later);
        }
    }

    private static void cardsUpTo16(Check check, int level) {
        check.sentence("There are up to 16 CARDS");
        ReportCompiler r = Report.atLevel(level);
        Report.line(r, Report.CARD, Report.ALWAYS, Report.ADD, 0, 0, Report.FIRST);
        check.due("run() over no card", r.run(), 0);
        int sum = 0;
        for (int n = 1; n <= 16; n++) {
            sum += 60 * n;
            check.due("card " + n, r.card(1, 1, 60 * n, 0), n);
            check.due("run() over " + n + " cards", r.run(), n);
            check.due("the sum over " + n + " cards", r.work(0), sum);
        }
        check.due("card 17", r.card(1, 1, 999, 0), FULL);
        check.due("run() after card 17", r.run(), 16);
        check.due("the sum after card 17", r.work(0), sum);
    }

    private static void keysAndParts(Check check, int level) {
        check.sentence("each with a KEY and a PART from 0 to 99");
        ReportCompiler r = Report.atLevel(level);
        Report.print(r, Report.CARD, Report.KEY);
        Report.print(r, Report.CARD, Report.PART);
        check.due("key -1", r.card(-1, 5, 0, 0), BAD);
        check.due("key 0", r.card(0, 5, 0, 0), 1);
        check.due("key 99", r.card(99, 5, 0, 0), 2);
        check.due("key 100", r.card(100, 5, 0, 0), BAD);
        check.due("part -1", r.card(5, -1, 0, 0), BAD);
        check.due("part 0", r.card(5, 0, 0, 0), 3);
        check.due("part 99", r.card(5, 99, 0, 0), 4);
        check.due("part 100", r.card(5, 100, 0, 0), BAD);
        check.due("run()", r.run(), 8);
        check.due("the keys and parts", Report.shown(r), "0 5 99 5 5 0 5 99 ");
    }

    private static void amounts(Check check, int level) {
        check.sentence("two AMOUNTS from -999 to 999");
        ReportCompiler r = Report.atLevel(level);
        Report.print(r, Report.CARD, Report.FIRST);
        Report.print(r, Report.CARD, Report.SECOND);
        check.due("first -1000", r.card(0, 0, -1000, 5), BAD);
        check.due("first -999", r.card(0, 0, -999, 5), 1);
        check.due("first 999", r.card(0, 0, 999, 5), 2);
        check.due("first 1000", r.card(0, 0, 1000, 5), BAD);
        check.due("second -1000", r.card(0, 0, 5, -1000), BAD);
        check.due("second -999", r.card(0, 0, 5, -999), 3);
        check.due("second 999", r.card(0, 0, 5, 999), 4);
        check.due("second 1000", r.card(0, 0, 5, 1000), BAD);
        check.due("run()", r.run(), 8);
        check.due("the amounts", Report.shown(r), "-999 5 999 5 5 -999 5 999 ");
    }

    private static void workFields(Check check, int level) {
        check.sentence("There are 6 WORK FIELDS, 0 to 5, each with a number from -999999 to 999999");
        for (int number : Report.WORK_EDGES) {
            for (int w = 0; w <= 5; w++) {
                ReportCompiler r = Report.atLevel(level);
                Report.load(r, Report.END, w, number);
                r.run();
                for (int other = 0; other <= 5; other++) {
                    check.due("work(" + other + ") with " + number + " in " + w, r.work(other),
                            other == w ? number : 0);
                }
            }
        }
    }

    private static void indicators(Check check, int level) {
        check.sentence("4 INDICATORS, 0 to 3, on or off");
        for (int state = 0; state < 16; state++) {
            ReportCompiler r = Report.atLevel(level);
            turn(r, Report.END, state);
            r.run();
            for (int i = 0; i <= 3; i++) {
                check.due("indicator(" + i + ") in state " + state, r.indicator(i), (state >> i) % 2 == 1);
            }
        }
    }

    private static void turn(ReportCompiler r, int when, int state) {
        for (int i = 0; i <= 3; i++) {
            Report.line(r, when, Report.ALWAYS, (state >> i) % 2 == 1 ? Report.ON : Report.OFF, i);
        }
    }

    private static void cutSums(Check check, int level) {
        check.sentence("To CUT a number is to replace it by what is left over when it is divided by 1000000");
        calculated(check, level, Report.ADD, 999998, 1, 999999);
        calculated(check, level, Report.ADD, 999999, 1, 0);
        calculated(check, level, Report.ADD, 999999, 2, 1);
        calculated(check, level, Report.ADD, 500000, 500000, 0);
        calculated(check, level, Report.ADD, 999999, 999999, 999998);
        calculated(check, level, Report.SUBTRACT, 999999, -999999, 999998);
        check.sentence("(with its sign)");
        calculated(check, level, Report.SUBTRACT, -999998, 1, -999999);
        calculated(check, level, Report.SUBTRACT, -999999, 1, 0);
        calculated(check, level, Report.SUBTRACT, -999999, 2, -1);
        calculated(check, level, Report.ADD, -500000, -500000, 0);
        calculated(check, level, Report.ADD, -999999, -999999, -999998);
        calculated(check, level, Report.SUBTRACT, -999999, 999999, -999998);
    }

    private static void cutProducts(Check check, int level) {
        check.sentence("what is left over when it is divided by 1000000, of a product");
        calculated(check, level, Report.MULTIPLY, 1000, 1000, 0);
        calculated(check, level, Report.MULTIPLY, 1000, -1000, 0);
        calculated(check, level, Report.MULTIPLY, 999, 1001, 999999);
        calculated(check, level, Report.MULTIPLY, -999, 1001, -999999);
        calculated(check, level, Report.MULTIPLY, 101, 9901, 1);
        calculated(check, level, Report.MULTIPLY, 101, -9901, -1);
        calculated(check, level, Report.MULTIPLY, 999999, 999999, 1);
        calculated(check, level, Report.MULTIPLY, 999999, -999999, -1);
        calculated(check, level, Report.MULTIPLY, 999999, 2, 999998);
    }

    private static void calculated(Check check, int level, int op, int x, int y, int want) {
        ReportCompiler r = Report.calculated(level, op, 2, x, y);
        check.due("op " + op + " of " + x + " and " + y, r.work(2), want);
    }

    private static void linesUpTo14(Check check, int level) {
        check.sentence("A REPORT is a list of up to 14 LINES");
        ReportCompiler r = Report.atLevel(level);
        check.due("run() of no line", r.run(), 0);
        for (int n = 1; n <= 14; n++) {
            check.due("line " + n, r.line(Report.END, 0, Report.END_LINE, 0), n);
            check.due("run() of " + n + " lines", r.run(), n);
            check.due("printed() of " + n + " lines", r.printed(), n);
        }
        check.due("line 15", r.line(Report.END, 0, Report.END_LINE, 0), FULL);
        check.due("run() after line 15", r.run(), 14);
    }

    private static void linesAreNumberedFrom0(Check check, int level) {
        check.sentence("LINES, numbered from 0");
        ReportCompiler r = Report.atLevel(level);
        check.due("operands of line 0 before it is there", r.operands(0, 10, 0, 1), false);
        for (int i = 0; i < 14; i++) {
            r.line(Report.END, 0, Report.PRINT, 0);
            check.due("operands of line " + (i + 1) + " before it is there", r.operands(i + 1, 10, 0, 1), false);
            check.due("operands of line " + i, r.operands(i, 10, 0, i), true);
        }
        check.due("operands of line -1", r.operands(-1, 10, 0, 1), false);
        r.run();
        check.due("the numbers of the lines", Report.shown(r), "0 1 2 3 4 5 6 7 8 9 10 11 12 13 ");
    }

    private static void whenConditionAndNumber(Check check, int level) {
        check.sentence("a line has a WHEN from 0 to 3, a CONDITION from 0 to 8, an op, a number w from 0 to 5");
        ReportCompiler r = Report.atLevel(level);
        check.due("when -1", r.line(-1, 0, 0, 0), BAD);
        check.due("when 0", r.line(0, 0, 0, 0), 1);
        check.due("when 3", r.line(3, 0, 0, 0), 2);
        check.due("when 4", r.line(4, 0, 0, 0), BAD);
        check.due("condition -1", r.line(0, -1, 0, 0), BAD);
        check.due("condition 8", r.line(0, 8, 0, 0), 3);
        check.due("condition 9", r.line(0, 9, 0, 0), BAD);
        check.due("op -1", r.line(0, 0, -1, 0), BAD);
        check.due("op 9", r.line(0, 0, 9, 0), 4);
        check.due("op 10", r.line(0, 0, 10, 0), BAD);
        check.due("w -1", r.line(0, 0, 0, -1), BAD);
        check.due("w 5", r.line(0, 0, 0, 5), 5);
        check.due("w 6", r.line(0, 0, 0, 6), BAD);
    }

    private static void sourcesAndConstant(Check check, int level) {
        check.sentence("two SOURCES x and y, from 0 to 10, and a constant c from -999 to 999");
        ReportCompiler r = Report.atLevel(level);
        r.line(Report.END, 0, Report.SUBTRACT, 1);
        check.due("x -1", r.operands(0, -1, 0, 0), false);
        check.due("x 11", r.operands(0, 11, 0, 0), false);
        check.due("y -1", r.operands(0, 0, -1, 0), false);
        check.due("y 11", r.operands(0, 0, 11, 0), false);
        check.due("c -1000", r.operands(0, 0, 0, -1000), false);
        check.due("c 1000", r.operands(0, 0, 0, 1000), false);
        check.due("x 0, y 10, c -999", r.operands(0, 0, 10, -999), true);
        r.run();
        check.due("0 - -999", r.work(1), 999);
        check.due("x 10, y 0, c 999", r.operands(0, 10, 0, 999), true);
        r.run();
        check.due("999 - 0", r.work(1), 999);
        check.due("x 10, y 0, c -999", r.operands(0, 10, 0, -999), true);
        r.run();
        check.due("-999 - 0", r.work(1), -999);
    }

    private static void sourcesOfWorkFields(Check check, int level) {
        check.sentence("A source from 0 to 5 stands for that work field");
        for (int source = 0; source <= 5; source++) {
            ReportCompiler r = Report.atLevel(level);
            for (int w = 0; w <= 5; w++) {
                Report.line(r, Report.END, Report.ALWAYS, Report.SET, w, Report.C, 0, 110 * (w + 1));
            }
            Report.print(r, Report.END, source);
            Report.line(r, Report.END, Report.ALWAYS, Report.SUBTRACT, source, Report.C, source, 1);
            Report.print(r, Report.END, source);
            r.run();
            int number = 110 * (source + 1);
            check.due("source " + source, Report.shown(r), number + " " + (1 - number) + " ");
        }
    }

    private static void sourcesOfThePresentCard(Check check, int level) {
        check.sentence("6 to 9 for the key, the part, the first and the second amount of the PRESENT card");
        ReportCompiler r = Report.atLevel(level);
        for (int source = Report.KEY; source <= Report.SECOND; source++) {
            Report.print(r, Report.CARD, source);
            Report.line(r, Report.CARD, Report.ALWAYS, Report.SUBTRACT, source - 6, Report.C, source, 0);
        }
        r.card(0, 99, -999, 999);
        r.run();
        check.due("as x", Report.shown(r), "0 99 -999 999 ");
        check.due("key as y", r.work(0), 0);
        check.due("part as y", r.work(1), -99);
        check.due("first as y", r.work(2), 999);
        check.due("second as y", r.work(3), -999);
        r.card(99, 0, 999, -999);
        r.run();
        check.due("of two cards", Report.shown(r), "0 99 -999 999 99 0 999 -999 ");
    }

    private static void sourcesWithoutACard(Check check, int level) {
        check.sentence("of the PRESENT card (0 if there is none yet)");
        ReportCompiler r = Report.atLevel(level);
        for (int source = Report.KEY; source <= Report.SECOND; source++) {
            Report.print(r, Report.END, source);
            Report.line(r, Report.END, Report.ALWAYS, Report.SUBTRACT, source - 6, Report.C, source, 44);
        }
        withoutACard(check, r, "on a new object");
        r.card(11, 22, 33, -44);
        r.run();
        check.due("with a card", Report.shown(r), "11 22 33 -44 ");
        r.clear();
        withoutACard(check, r, "after a run with a card, and clear");
        for (int n = 0; n < 16; n++) {
            r.card(n, n, n, n);
        }
        r.run();
        r.clear();
        withoutACard(check, r, "after a run with 16 cards, and clear");
    }

    private static void withoutACard(Check check, ReportCompiler r, String state) {
        r.run();
        check.due("sources 6 to 9 as x " + state, Report.shown(r), "0 0 0 0 ");
        for (int w = 0; w <= 3; w++) {
            check.due("source " + (w + 6) + " as y " + state, r.work(w), 44);
        }
    }

    private static void sourceOfTheConstant(Check check, int level) {
        check.sentence("10 for c");
        int[] constants = {-999, -998, -1, 0, 1, 998, 999};
        for (int c : constants) {
            ReportCompiler r = Report.atLevel(level);
            Report.line(r, Report.END, Report.ALWAYS, Report.SUBTRACT, 5, Report.C, 0, c);
            Report.line(r, Report.END, Report.ALWAYS, Report.SUBTRACT, 4, 0, Report.C, c);
            Report.print(r, Report.END, Report.KEY);
            r.run();
            check.due("c as x", r.work(5), c);
            check.due("c as y", r.work(4), -c);
            check.due("c of another line", Report.shown(r), "0 ");
        }
    }
}
