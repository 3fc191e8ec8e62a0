/** Rules 7 and 11 of LANGUAGE.md: no arguments in any state make a call throw, and the same calls answer the same. */
public final class AnyArgumentsTest {
    private static final int[] NUMBERS = {Integer.MIN_VALUE, -1000000, -1000, -999, -1, 0, 3, 4, 5, 6, 9, 10, 11, 13, 14,
        79, 80, 99, 100, 999, 1000, 65536, Integer.MAX_VALUE};

    private final Check check = new Check();
    private final ReportCompiler first = new ReportCompiler();
    private final ReportCompiler second = new ReportCompiler();

    public static void main(String[] args) {
        AnyArgumentsTest test = new AnyArgumentsTest();
        // None there, then some, then 16 cards and 14 lines; the calls above 512 may answer anything but must end.
        for (int round = 0; round < 3; round++) {
            test.callAll();
        }
        test.check.end();
    }

    private void callAll() {
        for (int a : NUMBERS) {
            callOne(a);
            for (int b : NUMBERS) {
                callFour(a, b, 0, 0);
                callFour(0, a, b, 0);
                callFour(0, 0, a, b);
                callFour(a, 0, b, 0);
                callFour(0, a, 0, b);
                callFour(a, 0, 0, b);
            }
        }
        check.due("run()", first.run(), second.run());
    }

    private void callOne(int a) {
        check.due("level(" + a + ")", first.level(a), second.level(a));
        check.due("run()", first.run(), second.run());
        check.due("work(" + a + ")", first.work(a), second.work(a));
        check.due("indicator(" + a + ")", first.indicator(a), second.indicator(a));
        check.due("text(" + a + ")", first.text(a), second.text(a));
        check.due("printed()", first.printed(), second.printed());
    }

    private void callFour(int a, int b, int c, int d) {
        String arguments = "(" + a + ", " + b + ", " + c + ", " + d + ")";
        check.due("card" + arguments, first.card(a, b, c, d), second.card(a, b, c, d));
        check.due("line" + arguments, first.line(a, b, c, d), second.line(a, b, c, d));
        check.due("operands" + arguments, first.operands(a, b, c, d), second.operands(a, b, c, d));
        if ((a ^ b ^ c ^ d) % 7 == 0) {
            check.due("retract()", first.retract(), second.retract());
        }
        if ((a ^ b ^ c ^ d) % 13 == 0) {
            check.due("clear()", first.clear(), second.clear());
        }
    }
}
