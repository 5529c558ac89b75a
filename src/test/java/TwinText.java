import java.util.ArrayDeque;
import java.util.Deque;

/**
 * A TEXT by two stacks, not by the document's grammar: what is open, and what waits for its right
 * side. It goes over the bytes once; where it can't go on is the FAULT.
 */
final class TwinText {
    private static final String JOINING = "|&<=>+-*/%";
    private static final int[] BINDING = {1, 2, 3, 3, 3, 4, 4, 5, 5, 5};

    interface Value {
        int of(int a, int b, int c);
    }

    private final Deque<Character> waiting = new ArrayDeque<>();
    private final Deque<Value> values = new ArrayDeque<>();
    private final Deque<Boolean> compared = new ArrayDeque<>();
    private int open;
    /** -1: it is a TEXT. */
    int fault = -1;
    Value value;

    TwinText(byte[] tape, String names) {
        boolean wantsValue = true;
        int digits = 0;
        compared.push(false);
        for (int i = 0; i < tape.length && fault < 0; i++) {
            char sign = (char) (tape[i] & 255);
            boolean isDigit = sign >= '0' && sign <= '9';
            if (isDigit && digits > 0 && digits < 4) {
                int left = values.pop().of(0, 0, 0);
                int number = left * 10 + sign - '0';
                values.push((a, b, c) -> number);
                digits++;
                continue;
            }
            if (digits > 0) {
                turn();
            }
            digits = 0;
            boolean goesOn;
            if (wantsValue) {
                goesOn = begin(sign, names);
                digits = isDigit ? 1 : 0;
                wantsValue = sign == '!' || sign == '(';
            } else {
                goesOn = goOn(sign);
                wantsValue = sign != ')';
            }
            if (!goesOn) {
                fault = i;
            }
        }
        if (fault >= 0) {
            return;
        }
        if (digits > 0) {
            turn();
        }
        if (wantsValue || compared.size() > 1) {
            fault = tape.length;
            return;
        }
        joinDownTo(0);
        value = values.pop();
    }

    private boolean begin(char sign, String names) {
        if (sign >= '0' && sign <= '9') {
            int number = sign - '0';
            values.push((a, b, c) -> number);
            return true;
        }
        if (sign == '!' || sign == '(') {
            if (sign == '(') {
                compared.push(false);
            }
            waiting.push(sign);
            return ++open <= 5;
        }
        switch (names.indexOf(sign)) {
            case 0: values.push((a, b, c) -> a); break;
            case 1: values.push((a, b, c) -> b); break;
            case 2: values.push((a, b, c) -> c); break;
            default: return false;
        }
        turn();
        return true;
    }

    /** What stands behind a value: a sign that joins it with one more, or ). */
    private boolean goOn(char sign) {
        if (sign == ')') {
            if (compared.size() == 1) {
                return false;
            }
            joinDownTo(0);
            waiting.pop();
            compared.pop();
            open--;
            turn();
            return true;
        }
        int i = JOINING.indexOf(sign);
        if (i < 0) {
            return false;
        }
        if (BINDING[i] == 3 && compared.peek()) {
            return false;
        }
        if (BINDING[i] <= 3) {
            compared.pop();
            compared.push(BINDING[i] == 3);
        }
        joinDownTo(BINDING[i]);
        waiting.push(sign);
        return true;
    }

    /** A value is whole: every ! right ahead of it is closed. */
    private void turn() {
        while (!waiting.isEmpty() && waiting.peek() == '!') {
            waiting.pop();
            open--;
            Value of = values.pop();
            values.push((a, b, c) -> of.of(a, b, c) != 0 ? 0 : 1);
        }
    }

    private void joinDownTo(int binding) {
        while (!waiting.isEmpty() && waiting.peek() != '(' && BINDING[JOINING.indexOf(waiting.peek())] >= binding) {
            char sign = waiting.pop();
            Value right = values.pop();
            Value left = values.pop();
            values.push((a, b, c) -> joined(sign, left.of(a, b, c), right.of(a, b, c)));
        }
    }

    private static int joined(char sign, int left, int right) {
        boolean is;
        switch (sign) {
            case '+': return (int) ((long) left + right);
            case '-': return (int) ((long) left - right);
            case '*': return (int) ((long) left * right);
            case '/': return right == 0 ? 0 : (int) ((long) left / right);
            case '%': return right == 0 ? 0 : (int) ((long) left % right);
            case '<': is = left < right; break;
            case '>': is = left > right; break;
            case '=': is = left == right; break;
            case '&': is = left != 0 & right != 0; break;
            default: is = left != 0 | right != 0; break;
        }
        return is ? 1 : 0;
    }
}
