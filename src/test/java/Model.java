import java.math.BigInteger;
import java.util.ArrayList;
import java.util.List;

/** The document's words over library types, written apart from the program so that the two can be compared. */
final class Model {
    private static final BigInteger MILLION = BigInteger.valueOf(1000000);
    private static final BigInteger BAD = BigInteger.valueOf(-10000000);

    private final List<int[]> cards = new ArrayList<>();
    private final List<int[]> lines = new ArrayList<>();
    private BigInteger[] work = zeros();
    private boolean[] on = new boolean[4];
    private StringBuilder text = new StringBuilder();
    private int[] present;
    private int executed;

    private static BigInteger[] zeros() {
        BigInteger[] zeros = new BigInteger[6];
        java.util.Arrays.fill(zeros, BigInteger.ZERO);
        return zeros;
    }

    private static boolean outside(int number, int low, int high) {
        return number < low || number > high;
    }

    int card(int key, int part, int first, int second) {
        if (cards.size() == 16) {
            return -10000001;
        }
        if (outside(key, 0, 99) || outside(part, 0, 99) || outside(first, -999, 999) || outside(second, -999, 999)) {
            return -10000000;
        }
        cards.add(new int[] {key, part, first, second});
        return cards.size();
    }

    int clear() {
        int there = cards.size();
        cards.clear();
        return there;
    }

    int line(int when, int condition, int op, int w) {
        if (lines.size() == 14) {
            return -10000001;
        }
        if (outside(when, 0, 3) || outside(condition, 0, 8) || outside(op, 0, 9) || outside(w, 0, 5)
                || (op == 6 || op == 7) && outside(w, 0, 3)) {
            return -10000000;
        }
        lines.add(new int[] {when, condition, op, w, 0, 0, 0});
        return lines.size();
    }

    boolean operands(int i, int x, int y, int c) {
        if (outside(i, 0, lines.size() - 1) || outside(x, 0, 10) || outside(y, 0, 10) || outside(c, -999, 999)) {
            return false;
        }
        int[] line = lines.get(i);
        line[4] = x;
        line[5] = y;
        line[6] = c;
        return true;
    }

    int retract() {
        if (lines.isEmpty()) {
            return -10000000;
        }
        lines.remove(lines.size() - 1);
        return lines.size();
    }

    int run() {
        work = zeros();
        on = new boolean[4];
        text = new StringBuilder();
        present = null;
        executed = 0;
        for (int[] card : cards) {
            boolean otherPart = present != null && present[1] != card[1];
            boolean otherKey = present != null && present[0] != card[0];
            if (otherPart || otherKey) {
                execute(1);
            }
            if (otherPart) {
                execute(2);
            }
            present = card;
            execute(0);
        }
        if (!cards.isEmpty()) {
            execute(1);
            execute(2);
        }
        execute(3);
        return executed;
    }

    private void execute(int when) {
        for (int[] line : lines) {
            int condition = line[1];
            boolean holds = condition == 0 || (condition < 5 ? on[condition - 1] : !on[condition - 5]);
            if (line[0] == when && holds) {
                executed++;
                execute(line[2], line[3], source(line[4], line[6]), source(line[5], line[6]));
            }
        }
    }

    private BigInteger source(int source, int c) {
        if (source <= 5) {
            return work[source];
        }
        if (source == 10) {
            return BigInteger.valueOf(c);
        }
        return present == null ? BigInteger.ZERO : BigInteger.valueOf(present[source - 6]);
    }

    private void execute(int op, int w, BigInteger x, BigInteger y) {
        if (op == 0) {
            work[w] = x.remainder(MILLION);
        } else if (op == 1) {
            work[w] = x.add(y).remainder(MILLION);
        } else if (op == 2) {
            work[w] = x.subtract(y).remainder(MILLION);
        } else if (op == 3) {
            work[w] = x.multiply(y).remainder(MILLION);
        } else if (op == 4 && y.signum() == 0) {
            work[w] = BigInteger.ZERO;
            on[3] = true;
        } else if (op == 4) {
            work[w] = x.divide(y).remainder(MILLION);
        } else if (op == 5) {
            int order = x.compareTo(y);
            on[0] = order > 0;
            on[1] = order < 0;
            on[2] = order == 0;
        } else if (op == 6 || op == 7) {
            on[w] = op == 6;
        } else if (op == 8) {
            text.append(x).append(' ');
        } else {
            text.append('\n');
        }
    }

    int work(int w) {
        return (outside(w, 0, 5) ? BAD : work[w]).intValueExact();
    }

    boolean indicator(int i) {
        return !outside(i, 0, 3) && on[i];
    }

    int printed() {
        return text.length();
    }

    int text(int k) {
        return outside(k, 0, 79) || k >= text.length() ? 0 : text.charAt(k);
    }

    boolean level(int k) {
        return !outside(k, 0, 1);
    }
}
