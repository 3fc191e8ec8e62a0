/** The sentences of promises 1 to 6 that name an edge or a refused call; a method each. */
public final class EdgesOfCardsAndLinesTest {
    private static final int BAD = ReportCompiler.BAD;
    private static final int FULL = ReportCompiler.FULL;

    public static void main(String[] args) {
        Check check = new Check();
        newHasNoCards(check);
        newHasNoLines(check);
        newHasNotRun(check);
        newLevel(check);
        cardFull(check);
        cardFullIsTestedFirst(check);
        cardBad(check);
        cardBadAddsNothing(check);
        cardAnswersHowMany(check);
        clearTakesAll(check);
        clearAnswersHowMany(check);
        lineHasZeroOperands(check);
        lineFull(check);
        lineFullIsTestedFirst(check);
        lineBad(check);
        lineBadIndicator(check);
        lineBadAddsNothing(check);
        lineAnswersTheNumber(check);
        operandsAreSet(check);
        operandsOfNoLine(check);
        operandsOutside(check);
        operandsRefusedSetNothing(check);
        operandsTrue(check);
        retractTakesTheLast(check);
        retractAnswersHowMany(check);
        retractFromNone(check);
        check.end();
    }

    /** Prints the cards' first amounts. */
    private static ReportCompiler tellingCards() {
        ReportCompiler r = new ReportCompiler();
        Report.print(r, Report.CARD, Report.FIRST);
        return r;
    }

    private static ReportCompiler withCards(int count) {
        ReportCompiler r = tellingCards();
        for (int n = 1; n <= count; n++) {
            r.card(n, n, n, n);
        }
        return r;
    }

    private static ReportCompiler withLines(int count) {
        ReportCompiler r = new ReportCompiler();
        for (int n = 1; n <= count; n++) {
            Report.printConstant(r, Report.END, Report.ALWAYS, n);
        }
        return r;
    }

    /** The text of a new run; asks for it with the calls that are left. */
    private static String told(ReportCompiler r) {
        r.run();
        return Report.shown(r);
    }

    private static String numbersTo(int count) {
        StringBuilder numbers = new StringBuilder();
        for (int n = 1; n <= count; n++) {
            numbers.append(n).append(' ');
        }
        return numbers.toString();
    }

    private static void newHasNoCards(Check check) {
        check.sentence("Promise 1: No cards");
        check.due("new clear()", new ReportCompiler().clear(), 0);
        check.due("new card(0, 0, 0, 0)", new ReportCompiler().card(0, 0, 0, 0), 1);
        check.due("run() over a new object's cards", tellingCards().run(), 0);
    }

    private static void newHasNoLines(Check check) {
        check.sentence("Promise 1: no lines");
        check.due("new retract()", new ReportCompiler().retract(), BAD);
        check.due("new operands(0, 0, 0, 0)", new ReportCompiler().operands(0, 0, 0, 0), false);
        check.due("new line(0, 0, 0, 0)", new ReportCompiler().line(0, 0, 0, 0), 1);
        check.due("new run()", new ReportCompiler().run(), 0);
        ReportCompiler r = new ReportCompiler();
        r.card(1, 1, 1, 1);
        check.due("run() of a new object's lines", r.run(), 0);
    }

    private static void newHasNotRun(Check check) {
        check.sentence("Promise 1: nothing has been run: all work fields are 0, the indicators off, the text empty");
        ReportCompiler r = new ReportCompiler();
        for (int w = 0; w <= 5; w++) {
            check.due("new work(" + w + ")", r.work(w), 0);
        }
        for (int i = 0; i <= 3; i++) {
            check.due("new indicator(" + i + ")", r.indicator(i), false);
        }
        check.due("new printed()", r.printed(), 0);
        for (int k = -1; k <= 80; k++) {
            check.due("new text(" + k + ")", r.text(k), 0);
        }
    }

    // The level shows in no answer: this tells only that a new object answers like one at level 1.
    private static void newLevel(Check check) {
        check.sentence("Promise 1: the level is 1");
        ReportCompiler plain = withCards(16);
        ReportCompiler set = withCards(16);
        set.level(1);
        check.due("run() at the first level", plain.run(), set.run());
        check.due("text at the first level", Report.shown(plain), Report.shown(set));
    }

    private static void cardFull(Check check) {
        check.sentence("Promise 2: 16 are there: FULL");
        check.due("a good card with 15 there", withCards(15).card(1, 1, 1, 1), 16);
        check.due("a good card with 16 there", withCards(16).card(1, 1, 1, 1), FULL);
        ReportCompiler r = withCards(16);
        for (int n = 0; n < 20; n++) {
            check.due("a good card too many, again", r.card(1, 1, 1, 1), FULL);
        }
        check.due("the cards after it", told(r), numbersTo(16));
        check.due("clear() after it", r.clear(), 16);
        check.due("a good card after clear", r.card(1, 1, 1, 1), 1);
    }

    private static void cardFullIsTestedFirst(Check check) {
        check.sentence("Promise 2: Tested in this order: FULL before BAD");
        ReportCompiler full = withCards(16);
        ReportCompiler room = withCards(15);
        int[][] wrong = {{-1, 0, 0, 0}, {100, 0, 0, 0}, {0, -1, 0, 0}, {0, 100, 0, 0}, {0, 0, -1000, 0},
            {0, 0, 1000, 0}, {0, 0, 0, -1000}, {0, 0, 0, 1000}, {-1, 100, 1000, -1000}};
        for (int[] c : wrong) {
            check.due("a wrong card with 16 there", full.card(c[0], c[1], c[2], c[3]), FULL);
            check.due("a wrong card with 15 there", room.card(c[0], c[1], c[2], c[3]), BAD);
        }
        check.due("a good card after the wrong ones", room.card(1, 1, 1, 1), 16);
    }

    private static void cardBad(Check check) {
        check.sentence("Promise 2: key or part outside 0..99, or an amount outside -999..999: BAD");
        int[] outsideKey = {Integer.MIN_VALUE, -100, -99, -1, 100, 101, 356, 65536, Integer.MAX_VALUE};
        for (int key : outsideKey) {
            check.due("card with key " + key, new ReportCompiler().card(key, 1, 1, 1), BAD);
            check.due("card with part " + key, new ReportCompiler().card(1, key, 1, 1), BAD);
        }
        int[] outsideAmount = {Integer.MIN_VALUE, -65536, -1001, -1000, 1000, 1001, 65536, Integer.MAX_VALUE};
        for (int amount : outsideAmount) {
            check.due("card with first " + amount, new ReportCompiler().card(1, 1, amount, 1), BAD);
            check.due("card with second " + amount, new ReportCompiler().card(1, 1, 1, amount), BAD);
        }
        int[] insideKey = {0, 1, 98, 99};
        for (int key : insideKey) {
            check.due("card with key " + key, new ReportCompiler().card(key, 1, 1, 1), 1);
            check.due("card with part " + key, new ReportCompiler().card(1, key, 1, 1), 1);
        }
        int[] insideAmount = {-999, -998, -1, 0, 1, 998, 999};
        for (int amount : insideAmount) {
            check.due("card with first " + amount, new ReportCompiler().card(1, 1, amount, 1), 1);
            check.due("card with second " + amount, new ReportCompiler().card(1, 1, 1, amount), 1);
        }
    }

    private static void cardBadAddsNothing(Check check) {
        check.sentence("Promise 2: BAD: no card is added");
        ReportCompiler r = withCards(2);
        r.card(-1, 1, 7, 7);
        r.card(1, 100, 7, 7);
        r.card(1, 1, 1000, 7);
        r.card(1, 1, 7, -1000);
        check.due("the cards after refusals", told(r), "1 2 ");
        check.due("the next good card", r.card(3, 3, 3, 3), 3);
        check.due("the cards after it", told(r), "1 2 3 ");
    }

    private static void cardAnswersHowMany(Check check) {
        check.sentence("Promise 2: Else answers how many there are");
        ReportCompiler r = new ReportCompiler();
        for (int n = 1; n <= 16; n++) {
            check.due("card number " + n, r.card(0, 0, 0, 0), n);
        }
    }

    private static void clearTakesAll(Check check) {
        check.sentence("Promise 3: Takes all cards away");
        int[] counts = {0, 1, 2, 15, 16};
        for (int count : counts) {
            ReportCompiler r = withCards(count);
            r.clear();
            check.due("run() after clear of " + count, r.run(), 0);
            check.due("the first card after clear of " + count, r.card(9, 9, 90, 9), 1);
            check.due("the cards after clear of " + count, told(r), "90 ");
        }
    }

    private static void clearAnswersHowMany(Check check) {
        check.sentence("Promise 3: answers how many there were");
        for (int count = 0; count <= 16; count++) {
            ReportCompiler r = withCards(count);
            check.due("clear() of " + count, r.clear(), count);
            check.due("clear() again", r.clear(), 0);
        }
        ReportCompiler r = withCards(16);
        r.card(1, 1, 1, 1);
        check.due("clear() after a card too many", r.clear(), 16);
    }

    // That the constant is 0 shows in no answer: a source becomes 10 only by operands, which sets the constant too.
    private static void lineHasZeroOperands(Check check) {
        check.sentence("Promise 4: Adds a line with the sources 0 and the constant 0");
        ReportCompiler r = new ReportCompiler();
        Report.line(r, Report.END, Report.ALWAYS, Report.SET, 0, Report.C, 0, 7);
        r.line(Report.END, Report.ALWAYS, Report.MULTIPLY, 1);
        r.run();
        check.due("the product of a new line's sources", r.work(1), 49);
        for (int source = 1; source <= 10; source++) {
            r.operands(1, source, source, -5);
            r.retract();
            r.line(Report.END, Report.ALWAYS, Report.MULTIPLY, 1);
            r.run();
            check.due("the same in the place of a line with sources " + source, r.work(1), 49);
        }
    }

    private static void lineFull(Check check) {
        check.sentence("Promise 4: 14 are there: FULL");
        check.due("a good line with 13 there", withLines(13).line(0, 0, 0, 0), 14);
        check.due("a good line with 14 there", withLines(14).line(0, 0, 0, 0), FULL);
        ReportCompiler r = withLines(14);
        for (int n = 0; n < 20; n++) {
            check.due("a good line too many, again", r.line(3, 0, 9, 0), FULL);
        }
        check.due("the lines after it", told(r), numbersTo(14));
        check.due("retract() after it", r.retract(), 13);
        check.due("a good line after retract", r.line(3, 0, 9, 0), 14);
    }

    private static void lineFullIsTestedFirst(Check check) {
        check.sentence("Promise 4: Tested in this order: FULL before BAD");
        ReportCompiler full = withLines(14);
        ReportCompiler room = withLines(13);
        int[][] wrong = {{-1, 0, 0, 0}, {4, 0, 0, 0}, {0, -1, 0, 0}, {0, 9, 0, 0}, {0, 0, -1, 0}, {0, 0, 10, 0},
            {0, 0, 0, -1}, {0, 0, 0, 6}, {0, 0, 6, 4}, {0, 0, 7, 4}, {4, 9, 10, 6}};
        for (int[] line : wrong) {
            check.due("a wrong line with 14 there", full.line(line[0], line[1], line[2], line[3]), FULL);
            check.due("a wrong line with 13 there", room.line(line[0], line[1], line[2], line[3]), BAD);
        }
        check.due("a good line after the wrong ones", room.line(0, 0, 0, 0), 14);
    }

    private static void lineBad(Check check) {
        check.sentence("Promise 4: when outside 0..3, condition outside 0..8, op outside 0..9, w outside 0..5: BAD");
        for (int number = -20; number <= 20; number++) {
            check.due("line with when " + number, new ReportCompiler().line(number, 0, 0, 0),
                    number >= 0 && number <= 3 ? 1 : BAD);
            check.due("line with condition " + number, new ReportCompiler().line(0, number, 0, 0),
                    number >= 0 && number <= 8 ? 1 : BAD);
            check.due("line with op " + number, new ReportCompiler().line(0, 0, number, 0),
                    number >= 0 && number <= 9 ? 1 : BAD);
            for (int op = 0; op <= 9; op++) {
                int highest = op == 6 || op == 7 ? 3 : 5;
                check.due("line with op " + op + " and w " + number, new ReportCompiler().line(0, 0, op, number),
                        number >= 0 && number <= highest ? 1 : BAD);
            }
        }
        for (int extreme : Report.EXTREMES) {
            check.due("line with when " + extreme, new ReportCompiler().line(extreme, 0, 0, 0), BAD);
            check.due("line with condition " + extreme, new ReportCompiler().line(0, extreme, 0, 0), BAD);
            check.due("line with op " + extreme, new ReportCompiler().line(0, 0, extreme, 0), BAD);
            check.due("line with w " + extreme, new ReportCompiler().line(0, 0, 0, extreme), BAD);
        }
    }

    private static void lineBadIndicator(Check check) {
        check.sentence("Promise 4: w (outside 0..3 for op 6 and 7): BAD");
        for (int op = 5; op <= 8; op++) {
            int highest = op == 6 || op == 7 ? 3 : 5;
            check.due("w 3 for op " + op, new ReportCompiler().line(0, 0, op, 3), 1);
            check.due("w 4 for op " + op, new ReportCompiler().line(0, 0, op, 4), highest < 4 ? BAD : 1);
            check.due("w 5 for op " + op, new ReportCompiler().line(0, 0, op, 5), highest < 5 ? BAD : 1);
            check.due("w 6 for op " + op, new ReportCompiler().line(0, 0, op, 6), BAD);
            check.due("w 0 for op " + op, new ReportCompiler().line(0, 0, op, 0), 1);
            check.due("w -1 for op " + op, new ReportCompiler().line(0, 0, op, -1), BAD);
        }
    }

    private static void lineBadAddsNothing(Check check) {
        check.sentence("Promise 4: BAD: no line is added");
        ReportCompiler r = withLines(2);
        r.line(4, 0, 9, 0);
        r.line(3, 9, 9, 0);
        r.line(3, 0, 10, 0);
        r.line(3, 0, 9, 6);
        r.line(3, 0, 6, 4);
        check.due("the lines after refusals", told(r), "1 2 ");
        check.due("operands of a refused line", r.operands(2, 0, 0, 0), false);
        check.due("the next good line", r.line(3, 0, 9, 0), 3);
        check.due("the lines after it", told(r), "1 2 \n");
    }

    private static void lineAnswersTheNumber(Check check) {
        check.sentence("Promise 4: Else answers the number of lines");
        ReportCompiler r = new ReportCompiler();
        for (int n = 1; n <= 14; n++) {
            check.due("line number " + n, r.line(n % 4, n % 9, n % 10, 3), n);
        }
    }

    private static void operandsAreSet(Check check) {
        check.sentence("Promise 5: Sets the sources and the constant of line i");
        for (int i = 0; i < 14; i++) {
            ReportCompiler r = withLines(14);
            r.operands(i, Report.C, 0, -8);
            String want = " " + numbersTo(14);
            want = want.replace(" " + (i + 1) + " ", " -8 ").substring(1);
            check.due("the lines after operands of line " + i, told(r), want);
        }
        ReportCompiler r = withLines(1);
        r.line(Report.END, 0, Report.SUBTRACT, 0);
        r.operands(1, Report.C, 1, 30);
        r.run();
        check.due("x is set apart from y", r.work(0), 30);
        r.operands(1, 1, Report.C, 30);
        r.run();
        check.due("y is set apart from x", r.work(0), -30);
    }

    private static void operandsOfNoLine(Check check) {
        check.sentence("Promise 5: There is none: refused, answers false");
        for (int count = 0; count <= 14; count++) {
            ReportCompiler r = withLines(count);
            check.due("operands of line -1 of " + count, r.operands(-1, 0, 0, 0), false);
            check.due("operands of line " + (count - 1) + " of " + count, r.operands(count - 1, 0, 0, 0), count > 0);
            check.due("operands of line " + count + " of " + count, r.operands(count, 0, 0, 0), false);
            check.due("operands of line " + (count + 1) + " of " + count, r.operands(count + 1, 0, 0, 0), false);
            for (int extreme : Report.EXTREMES) {
                check.due("operands of line " + extreme, r.operands(extreme, 0, 0, 0), false);
            }
        }
        ReportCompiler r = withLines(2);
        r.retract();
        check.due("operands of a line that was taken away", r.operands(1, 0, 0, 0), false);
    }

    private static void operandsOutside(Check check) {
        check.sentence("Promise 5: x or y outside 0..10, or c outside -999..999: refused, answers false");
        ReportCompiler r = withLines(14);
        for (int source = -20; source <= 30; source++) {
            boolean want = source >= 0 && source <= 10;
            check.due("x " + source, r.operands(13, source, 0, 0), want);
            check.due("y " + source, r.operands(0, 0, source, 0), want);
        }
        int[] outside = {-65536, -1001, -1000, 1000, 1001, 65536};
        for (int c : outside) {
            check.due("c " + c, r.operands(0, 0, 0, c), false);
        }
        for (int extreme : Report.EXTREMES) {
            check.due("x " + extreme, r.operands(0, extreme, 0, 0), false);
            check.due("y " + extreme, r.operands(0, 0, extreme, 0), false);
            check.due("c " + extreme, r.operands(0, 0, 0, extreme), false);
        }
    }

    private static void operandsRefusedSetNothing(Check check) {
        check.sentence("Promise 5: refused: the sources and the constant stay");
        ReportCompiler r = withLines(3);
        r.line(Report.END, 0, Report.ADD, 5);
        r.operands(3, 10, 10, 21);
        int[][] wrong = {{3, 11, 0, 1}, {3, -1, 0, 1}, {3, 0, 11, 1}, {3, 0, -1, 1}, {3, 0, 0, 1000}, {3, 0, 0, -1000},
            {3, 10, 0, 1000}, {3, 0, 10, -1000}, {3, 10, 11, 1}, {3, 11, 10, 1}, {4, 10, 10, 1}, {-1, 10, 10, 1}};
        for (int[] o : wrong) {
            check.due("operands", r.operands(o[0], o[1], o[2], o[3]), false);
            r.run();
            check.due("21 + 21 after refused operands", r.work(5), 42);
        }
        check.due("the other lines", Report.shown(r), "1 2 3 ");
    }

    private static void operandsTrue(Check check) {
        check.sentence("Promise 5: Else true");
        ReportCompiler r = withLines(14);
        int[] constants = {-999, -998, -1, 0, 1, 998, 999};
        for (int i = 0; i < 14; i++) {
            for (int c : constants) {
                check.due("operands of line " + i, r.operands(i, 10, i % 11, c), true);
                check.due("the same again", r.operands(i, i % 11, 10, c), true);
            }
        }
    }

    private static void retractTakesTheLast(Check check) {
        check.sentence("Promise 6: Takes the last line away");
        ReportCompiler r = withLines(14);
        for (int left = 13; left >= 0; left--) {
            r.retract();
            check.due("run() of " + left + " lines", r.run(), left);
            check.due("operands of the line taken away", r.operands(left, 0, 0, 0), false);
        }
        r = withLines(14);
        r.retract();
        r.retract();
        check.due("the lines that are left", told(r), numbersTo(12));
        r.line(Report.END, 0, Report.END_LINE, 0);
        check.due("the lines with a new last one", told(r), numbersTo(12) + "\n");
        r.retract();
        check.due("the lines without it", told(r), numbersTo(12));
    }

    private static void retractAnswersHowMany(Check check) {
        check.sentence("Promise 6: answers how many are left");
        for (int count = 1; count <= 14; count++) {
            check.due("retract() from " + count, withLines(count).retract(), count - 1);
        }
        ReportCompiler r = withLines(14);
        r.line(0, 0, 0, 0);
        for (int left = 13; left >= 0; left--) {
            check.due("retract() to " + left, r.retract(), left);
        }
    }

    private static void retractFromNone(Check check) {
        check.sentence("Promise 6: BAD if there was none");
        ReportCompiler r = new ReportCompiler();
        for (int n = 0; n < 20; n++) {
            check.due("retract() from none", r.retract(), BAD);
        }
        check.due("a line after it", r.line(Report.END, 0, Report.END_LINE, 0), 1);
        check.due("run() after it", r.run(), 1);
        check.due("retract() from one", r.retract(), 0);
        check.due("retract() from none after one", r.retract(), BAD);
        check.due("run() of none", r.run(), 0);
    }
}
