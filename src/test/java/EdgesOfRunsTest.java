/** The edges of when a line is EXECUTED and of the course of a run, in the document's 'Terms'; a method each. */
public final class EdgesOfRunsTest {
    public static void main(String[] args) {
        Check check = new Check();
        for (int level = 0; level <= 1; level++) {
            conditionNone(check, level);
            conditionOn(check, level);
            conditionOff(check, level);
            notExecuted(check, level);
            atThatMoment(check, level);
            beginsWithFields0(check, level);
            beginsWithIndicatorsOff(check, level);
            beginsWithoutACard(check, level);
            everyCardInOrder(check, level);
            anotherPart(check, level);
            anotherPartInOrder(check, level);
            anotherKey(check, level);
            neither(check, level);
            breaksAreOfThePresentCard(check, level);
            cardBecomesThePresentOne(check, level);
            endWithCards(check, level);
            endInAnyCase(check, level);
        }
        check.end();
    }

    /** Turns the indicators to a state from 0 to 15, and then prints each condition's number under it. */
    private static String heldConditions(int level, int state) {
        ReportCompiler r = Report.atLevel(level);
        for (int i = 0; i <= 3; i++) {
            Report.line(r, Report.END, Report.ALWAYS, (state >> i) % 2 == 1 ? Report.ON : Report.OFF, i);
        }
        for (int condition = 0; condition <= 8; condition++) {
            Report.printConstant(r, Report.END, condition, condition);
        }
        r.run();
        return Report.shown(r);
    }

    private static void conditionNone(Check check, int level) {
        check.sentence("A line is EXECUTED only if its condition is 0");
        for (int state = 0; state < 16; state++) {
            check.due("condition 0 in state " + state, heldConditions(level, state).contains("0 "), true);
        }
    }

    private static void conditionOn(Check check, int level) {
        check.sentence("or from 1 to 4 and indicator condition - 1 is on");
        for (int state = 0; state < 16; state++) {
            String held = heldConditions(level, state);
            for (int condition = 1; condition <= 4; condition++) {
                check.due("condition " + condition + " in state " + state, held.contains(condition + " "),
                        (state >> (condition - 1)) % 2 == 1);
            }
        }
    }

    private static void conditionOff(Check check, int level) {
        check.sentence("or from 5 to 8 and indicator condition - 5 is off");
        for (int state = 0; state < 16; state++) {
            String held = heldConditions(level, state);
            for (int condition = 5; condition <= 8; condition++) {
                check.due("condition " + condition + " in state " + state, held.contains(condition + " "),
                        (state >> (condition - 5)) % 2 == 0);
            }
        }
    }

    private static void notExecuted(Check check, int level) {
        check.sentence("A line is EXECUTED only if: else nothing becomes of it");
        for (int op = 0; op <= 9; op++) {
            for (int condition = 1; condition <= 4; condition++) {
                ReportCompiler r = Report.atLevel(level);
                for (int when = 0; when <= 3; when++) {
                    Report.line(r, when, condition, op, 2, Report.C, 0, 7);
                }
                r.card(1, 1, 1, 1);
                String line = "op " + op + " under condition " + condition;
                check.due("run() of " + line, r.run(), 0);
                check.due("work(2) of " + line, r.work(2), 0);
                for (int i = 0; i <= 3; i++) {
                    check.due("indicator(" + i + ") of " + line, r.indicator(i), false);
                }
                check.due("printed() of " + line, r.printed(), 0);
            }
        }
    }

    private static void atThatMoment(Check check, int level) {
        check.sentence("at that moment");
        for (int i = 0; i <= 3; i++) {
            ReportCompiler r = Report.atLevel(level);
            Report.printConstant(r, Report.CARD, i + 1, 1);
            Report.line(r, Report.CARD, i + 5, Report.ON, i);
            Report.printConstant(r, Report.CARD, i + 1, 2);
            Report.printConstant(r, Report.CARD, i + 5, 3);
            Report.line(r, Report.KEY_BREAK, i + 1, Report.OFF, i);
            Report.printConstant(r, Report.KEY_BREAK, i + 1, 4);
            Report.printConstant(r, Report.KEY_BREAK, i + 5, 5);
            r.card(1, 1, 0, 0);
            r.card(1, 1, 0, 0);
            r.card(2, 1, 0, 0);
            // Card 1: on, 2. Card 2: 1, 2. Break: off, 5. Card 3: on, 2. End: off, 5.
            check.due("run() with indicator " + i, r.run(), 10);
            check.due("text with indicator " + i, Report.shown(r), "2 1 2 5 2 5 ");
            check.due("indicator(" + i + ")", r.indicator(i), false);
        }
    }

    private static void beginsWithFields0(Check check, int level) {
        check.sentence("A run begins with all work fields 0");
        for (int w = 0; w <= 5; w++) {
            ReportCompiler r = Report.atLevel(level);
            r.card(1, 1, 7, 0);
            Report.print(r, Report.CARD, w);
            Report.line(r, Report.CARD, Report.ALWAYS, Report.ADD, w, w, Report.FIRST);
            for (int n = 1; n <= 3; n++) {
                r.run();
                check.due("field " + w + " as run " + n + " begins", Report.shown(r), "0 ");
                check.due("work(" + w + ") as run " + n + " ends", r.work(w), 7);
            }
            r.clear();
            r.run();
            check.due("work(" + w + ") after a run without cards", r.work(w), 0);
        }
    }

    private static void beginsWithIndicatorsOff(Check check, int level) {
        check.sentence("and all indicators off");
        for (int i = 0; i <= 3; i++) {
            ReportCompiler r = Report.atLevel(level);
            r.card(1, 1, 7, 0);
            Report.printConstant(r, Report.CARD, i + 1, 1);
            Report.printConstant(r, Report.CARD, i + 5, 2);
            Report.line(r, Report.CARD, Report.ALWAYS, Report.ON, i);
            for (int n = 1; n <= 3; n++) {
                check.due("run() number " + n, r.run(), 2);
                check.due("indicator " + i + " as run " + n + " begins", Report.shown(r), "2 ");
                check.due("indicator(" + i + ") as run " + n + " ends", r.indicator(i), true);
            }
            r.clear();
            r.run();
            check.due("indicator(" + i + ") after a run without cards", r.indicator(i), false);
        }
    }

    private static void beginsWithoutACard(Check check, int level) {
        check.sentence("without a present card");
        ReportCompiler r = Report.atLevel(level);
        tellSections(r);
        r.card(5, 5, 0, 0);
        r.card(6, 6, 0, 0);
        for (int n = 1; n <= 3; n++) {
            r.run();
            check.due("no break before the first card of run " + n, Report.shown(r), "0 1 2 0 1 2 3 ");
        }
        r.clear();
        r.card(7, 7, 0, 0);
        r.run();
        check.due("no break before the first card after clear", Report.shown(r), "0 1 2 3 ");
        r.clear();
        r.run();
        check.due("a run without cards after one with", Report.shown(r), "3 ");
    }

    // Written against the order of execution, so that the order comes from when alone.
    private static void tellSections(ReportCompiler r) {
        for (int when = 3; when >= 0; when--) {
            Report.printConstant(r, when, Report.ALWAYS, when);
        }
    }

    private static void sections(Check check, int level, String want, int... keysAndParts) {
        ReportCompiler r = Report.atLevel(level);
        tellSections(r);
        StringBuilder cards = new StringBuilder();
        for (int n = 0; n < keysAndParts.length; n += 2) {
            r.card(keysAndParts[n], keysAndParts[n + 1], 0, 0);
            cards.append(' ').append(keysAndParts[n]).append('/').append(keysAndParts[n + 1]);
        }
        check.due("run() over" + cards, r.run(), want.length() / 2);
        check.due("sections over" + cards, Report.shown(r), want);
    }

    private static void everyCardInOrder(Check check, int level) {
        check.sentence("Then for every card, in order");
        ReportCompiler r = Report.atLevel(level);
        Report.print(r, Report.CARD, Report.FIRST);
        StringBuilder want = new StringBuilder();
        check.due("run() over no card", r.run(), 0);
        for (int n = 1; n <= 16; n++) {
            int amount = n % 3 * 10 - n;
            want.append(amount).append(' ');
            r.card(0, 0, amount, 0);
            r.run();
            check.due("the first amounts of " + n + " cards", Report.shown(r), want.toString());
        }
    }

    private static void anotherPart(Check check, int level) {
        check.sentence("if there is a present card and its part is another one than the card's, all lines with when 1 "
                + "are executed in order, then all with when 2");
        sections(check, level, "0 1 2 0 1 2 3 ", 1, 1, 1, 2);
        sections(check, level, "0 1 2 0 1 2 3 ", 1, 2, 1, 1);
        sections(check, level, "0 1 2 0 1 2 3 ", 0, 0, 0, 99);
        sections(check, level, "0 1 2 0 1 2 3 ", 0, 99, 0, 0);
        sections(check, level, "0 1 2 0 1 2 3 ", 1, 1, 2, 2);
        sections(check, level, "0 1 2 0 1 2 3 ", 99, 0, 0, 99);
        // The key of one card and the part of the other being alike is no reason to take them for the same.
        sections(check, level, "0 1 2 0 1 2 3 ", 1, 2, 2, 1);
        sections(check, level, "0 1 2 3 ", 99, 99);
    }

    private static void anotherPartInOrder(Check check, int level) {
        check.sentence("all lines with when 1 are executed in order, then all with when 2, all lines in order");
        ReportCompiler r = Report.atLevel(level);
        int[] whens = {2, 1, 2, 1, 2, 1};
        for (int i = 0; i < whens.length; i++) {
            Report.printConstant(r, whens[i], Report.ALWAYS, i);
        }
        r.card(1, 1, 0, 0);
        r.card(1, 2, 0, 0);
        check.due("run()", r.run(), 12);
        check.due("order", Report.shown(r), "1 3 5 0 2 4 1 3 5 0 2 4 ");
    }

    private static void anotherKey(Check check, int level) {
        check.sentence("else, if there is one and its key is another one, those with when 1");
        sections(check, level, "0 1 0 1 2 3 ", 1, 1, 2, 1);
        sections(check, level, "0 1 0 1 2 3 ", 2, 1, 1, 1);
        sections(check, level, "0 1 0 1 2 3 ", 0, 0, 99, 0);
        sections(check, level, "0 1 0 1 2 3 ", 99, 99, 0, 99);
        sections(check, level, "0 1 0 1 0 1 2 3 ", 1, 1, 2, 1, 1, 1);
        sections(check, level, "0 1 2 3 ", 99, 0);
    }

    private static void neither(Check check, int level) {
        check.sentence("another one: a card with the same part and key makes no break");
        sections(check, level, "0 0 1 2 3 ", 0, 0, 0, 0);
        sections(check, level, "0 0 1 2 3 ", 99, 99, 99, 99);
        sections(check, level, "0 0 0 1 2 3 ", 3, 4, 3, 4, 3, 4);
        sections(check, level, "0 0 1 0 0 1 2 0 0 1 2 3 ", 1, 1, 1, 1, 2, 1, 2, 1, 2, 2, 2, 2);
    }

    private static void breaksAreOfThePresentCard(Check check, int level) {
        check.sentence("there is a present card: at a break it is still the one before");
        ReportCompiler r = Report.atLevel(level);
        for (int source = Report.KEY; source <= Report.SECOND; source++) {
            Report.print(r, Report.KEY_BREAK, source);
            Report.print(r, Report.PART_BREAK, source);
        }
        r.card(1, 2, 3, 4);
        r.card(5, 2, 6, 7);
        r.card(5, 8, 9, 10);
        r.run();
        check.due("what the breaks see", Report.shown(r), "1 2 3 4 5 2 6 7 5 2 6 7 5 8 9 10 5 8 9 10 ");
    }

    private static void cardBecomesThePresentOne(Check check, int level) {
        check.sentence("the card becomes the present one; all lines with when 0 are executed in order");
        ReportCompiler r = Report.atLevel(level);
        for (int source = Report.SECOND; source >= Report.KEY; source--) {
            Report.print(r, Report.CARD, source);
        }
        r.card(1, 2, 3, 4);
        r.card(1, 2, 5, 6);
        r.card(0, 2, -7, -8);
        r.card(0, 99, 0, 0);
        check.due("run()", r.run(), 16);
        check.due("what when 0 sees", Report.shown(r), "4 3 2 1 6 5 2 1 -8 -7 2 0 0 0 99 0 ");
    }

    private static void endWithCards(Check check, int level) {
        check.sentence("At the end, if there was a card, those with when 1 are executed, then those with when 2");
        sections(check, level, "3 ");
        sections(check, level, "0 1 2 3 ", 0, 0);
        int[] same = new int[32];
        sections(check, level, "0 ".repeat(16) + "1 2 3 ", same);
        int[] otherKeys = new int[32];
        int[] otherParts = new int[32];
        for (int n = 0; n < 16; n++) {
            otherKeys[2 * n] = n;
            otherParts[2 * n + 1] = n;
        }
        sections(check, level, "0 1 ".repeat(16) + "2 3 ", otherKeys);
        ReportCompiler r = Report.atLevel(level);
        Report.printConstant(r, Report.PART_BREAK, Report.ALWAYS, 2);
        Report.printConstant(r, Report.KEY_BREAK, Report.ALWAYS, 1);
        for (int n = 0; n < 16; n++) {
            r.card(otherParts[2 * n], otherParts[2 * n + 1], 0, 0);
        }
        check.due("run() over 16 parts", r.run(), 32);
        check.due("text over 16 parts", Report.shown(r), "1 2 ".repeat(16));
    }

    private static void endInAnyCase(Check check, int level) {
        check.sentence("and then, in any case, those with when 3");
        ReportCompiler r = Report.atLevel(level);
        Report.printConstant(r, Report.END, Report.ALWAYS, 1);
        Report.print(r, Report.END, Report.KEY);
        Report.print(r, Report.END, Report.SECOND);
        check.due("run() without cards", r.run(), 3);
        check.due("text without cards", Report.shown(r), "1 0 0 ");
        r.card(4, 5, 6, 7);
        check.due("run() with one card", r.run(), 3);
        check.due("text with one card", Report.shown(r), "1 4 7 ");
        for (int n = 2; n <= 16; n++) {
            r.card(n, n, n, -n);
        }
        check.due("run() with 16 cards", r.run(), 3);
        check.due("text with 16 cards", Report.shown(r), "1 16 -16 ");
    }
}
