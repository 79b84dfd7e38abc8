import java.util.ArrayList;
import java.util.List;

/**
 * The document's words again, in another form: a reader that goes down the grammar by calls and
 * throws its fault. ModelTests hold RangeReckoner against it.
 */
final class Model {
    private static final long GREATEST = 2_000_000_000L;
    private static final String[] MARKS = {
        "min", "max", "abs", "<=", ">=", "==", "!=", "&&", "||",
        "(", ")", ",", "?", ":", "+", "-", "*", "/", "%", "<", ">", "!"
    };

    private static final class Fault extends RuntimeException {
        private static final long serialVersionUID = 1;
        final int code;

        Fault(int kind, int place) {
            super("", null, false, false);
            code = kind + 8 * place;
        }
    }

    private static final class Node {
        String operator;
        int place;
        boolean truth;
        long low;
        long high;
        int variable;
        List<Node> taken;

        int depth() {
            int deepest = 0;
            for (Node node : taken) deepest = Math.max(deepest, node.depth());
            return deepest + 1;
        }
    }

    private final List<long[]> variables = new ArrayList<>();
    private String tape = "";
    private List<Node> parts = new ArrayList<>();

    int variable(int low, int high) {
        if (variables.size() == 20 || high < low || Math.abs((long) low) > GREATEST || Math.abs((long) high) > GREATEST) return -1;
        variables.add(new long[] {low, high, low > 0 ? low : high < 0 ? high : 0});
        return variables.size() - 1;
    }

    boolean give(int variable, int value) {
        if (variable < 0 || variable >= variables.size()) return false;
        long[] it = variables.get(variable);
        if (value < it[0] || value > it[1]) return false;
        it[2] = value;
        return true;
    }

    int feed(int a, int b) {
        StringBuilder more = new StringBuilder();
        long all = ((long) a << 32) | (b & 0xffffffffL);
        for (int k = 7; k >= 0; k--) {
            int sign = (int) (all >>> (8 * k)) & 0xff;
            if (sign == 0) continue;
            if (sign < 32 || sign > 126) return -1;
            more.append((char) sign);
        }
        if (tape.length() + more.length() > 400) return -1;
        tape += more;
        return tape.length();
    }

    int take() {
        Reading reading = new Reading(tape);
        tape = "";
        try {
            reading.whole();
        } catch (Fault fault) {
            return fault.code;
        }
        parts = reading.parts;
        return 0;
    }

    int part(int i, int what) {
        if (i < 0 || i >= parts.size() || what < 0 || what > 3) return -1;
        Node node = parts.get(i);
        return (int) (what == 0 ? node.place : what == 1 ? (node.truth ? 1 : 0) : what == 2 ? node.low : node.high);
    }

    long value(int i) {
        if (i < 0 || i >= parts.size()) throw new IndexOutOfBoundsException();
        return valueOf(parts.get(i));
    }

    long width() {
        if (parts.isEmpty()) return -1;
        Node whole = parts.get(parts.size() - 1);
        return whole.truth ? 2 : whole.high - whole.low + 1;
    }

    int count(int what) {
        switch (what) {
            case 0: return variables.size();
            case 1: return parts.size();
            case 2: return tape.length();
            case 3: return parts.isEmpty() ? 0 : parts.get(parts.size() - 1).depth();
            default: return -1;
        }
    }

    private long valueOf(Node node) {
        if (node.operator.equals("digits")) return node.low;
        if (node.operator.equals("variable")) return variables.get(node.variable)[2];
        long[] of = new long[node.taken.size()];
        for (int k = 0; k < of.length; k++) of[k] = valueOf(node.taken.get(k));
        long a = of[0];
        long b = of.length > 1 ? of[1] : 0;
        switch (node.operator) {
            case "neg": return -a;
            case "!": return 1 - a;
            case "abs": return a < 0 ? -a : a;
            case "min": return a < b ? a : b;
            case "max": return a > b ? a : b;
            case "+": return a + b;
            case "-": return a - b;
            case "*": return a * b;
            case "/": return a / b;
            case "%": return a % b;
            case "<": return a < b ? 1 : 0;
            case "<=": return a <= b ? 1 : 0;
            case ">": return a > b ? 1 : 0;
            case ">=": return a >= b ? 1 : 0;
            case "==": return a == b ? 1 : 0;
            case "!=": return a != b ? 1 : 0;
            case "&&": return a & b;
            case "||": return a | b;
            case "?": return a == 1 ? b : of[2];
            default: throw new AssertionError(node.operator);
        }
    }

    private final class Reading {
        final String text;
        final List<Node> parts = new ArrayList<>();
        int next = 0;
        int nested = 0;
        String token;
        int place;

        Reading(String text) {
            this.text = text;
        }

        void whole() {
            advance();
            term();
            if (!token.equals("end")) throw new Fault(1, place);
        }

        void advance() {
            while (next < text.length() && text.charAt(next) == ' ') next++;
            place = next;
            String left = text.substring(next);
            if (left.isEmpty()) {
                token = "end";
                return;
            }
            if (Character.isDigit(left.charAt(0))) {
                token = left.replaceFirst("[^0-9].*", "");
                next += token.length();
                if (token.length() > 10 || Long.parseLong(token) > GREATEST) token = "none";
                return;
            }
            if (left.matches("v[0-9].*")) {
                token = left.matches("v[0-9][0-9].*") ? left.substring(0, 3) : left.substring(0, 2);
                next += token.length();
                return;
            }
            for (String mark : MARKS) {
                if (left.startsWith(mark)) {
                    token = mark;
                    next += mark.length();
                    return;
                }
            }
            token = "none";
        }

        boolean is(String... tokens) {
            for (String one : tokens) if (token.equals(one)) return true;
            return false;
        }

        void need(String one) {
            if (!is(one)) throw new Fault(1, place);
            advance();
        }

        void enter() {
            if (++nested > 32) throw new Fault(5, place);
        }

        Node term() {
            Node first = or();
            if (!is("?")) return first;
            int at = place;
            enter();
            advance();
            Node second = term();
            need(":");
            Node third = term();
            nested--;
            return make("?", at, first, second, third);
        }

        Node or() {
            Node so = and();
            while (is("||")) {
                int at = place;
                advance();
                so = make("||", at, so, and());
            }
            return so;
        }

        Node and() {
            Node so = comparison();
            while (is("&&")) {
                int at = place;
                advance();
                so = make("&&", at, so, comparison());
            }
            return so;
        }

        Node comparison() {
            Node so = sum();
            if (!is("<", "<=", ">", ">=", "==", "!=")) return so;
            String operator = token;
            int at = place;
            advance();
            return make(operator, at, so, sum());
        }

        Node sum() {
            Node so = product();
            while (is("+", "-")) {
                String operator = token;
                int at = place;
                advance();
                so = make(operator, at, so, product());
            }
            return so;
        }

        Node product() {
            Node so = front();
            while (is("*", "/", "%")) {
                String operator = token;
                int at = place;
                advance();
                so = make(operator, at, so, front());
            }
            return so;
        }

        Node front() {
            if (!is("-", "!")) return first();
            String operator = is("-") ? "neg" : "!";
            int at = place;
            enter();
            advance();
            Node of = front();
            nested--;
            return make(operator, at, of);
        }

        Node first() {
            int at = place;
            if (is("(")) {
                enter();
                advance();
                Node inside = term();
                need(")");
                nested--;
                return inside;
            }
            if (is("min", "max", "abs")) return function();
            Node leaf = new Node();
            if (token.matches("[0-9]+")) {
                leaf.operator = "digits";
                leaf.low = leaf.high = Long.parseLong(token);
            } else if (token.matches("v[0-9]+")) {
                leaf.operator = "variable";
                leaf.variable = Integer.parseInt(token.substring(1));
                if (leaf.variable >= variables.size()) throw new Fault(1, at);
                leaf.low = variables.get(leaf.variable)[0];
                leaf.high = variables.get(leaf.variable)[1];
            } else {
                throw new Fault(1, at);
            }
            leaf.taken = List.of();
            number(leaf, at);
            advance();
            return leaf;
        }

        Node function() {
            String operator = token;
            int at = place;
            enter();
            advance();
            need("(");
            Node a = term();
            Node made;
            if (operator.equals("abs")) {
                made = make(operator, at, a);
            } else {
                need(",");
                made = make(operator, at, a, term());
            }
            need(")");
            nested--;
            return made;
        }

        void number(Node node, int at) {
            node.place = at;
            if (parts.size() == 100) throw new Fault(6, at);
            parts.add(node);
        }

        Node make(String operator, int at, Node... of) {
            Node node = new Node();
            node.operator = operator;
            node.taken = List.of(of);
            if (!kindsFit(operator, of)) throw new Fault(2, at);
            Node last = of[of.length - 1];
            if ((operator.equals("/") || operator.equals("%")) && last.low <= 0 && last.high >= 0) throw new Fault(3, at);
            node.truth = operator.equals("?") ? last.truth : List.of("<", "<=", ">", ">=", "==", "!=", "&&", "||", "!").contains(operator);
            node.high = 1;
            if (!node.truth) range(node, of[0], last);
            if (node.low < -GREATEST || node.high > GREATEST) throw new Fault(4, at);
            number(node, at);
            return node;
        }

        boolean kindsFit(String operator, Node[] of) {
            switch (operator) {
                case "?": return of[0].truth && of[1].truth == of[2].truth;
                case "==": case "!=": return of[0].truth == of[1].truth;
                case "&&": case "||": case "!":
                    for (Node one : of) if (!one.truth) return false;
                    return true;
                default:
                    for (Node one : of) if (one.truth) return false;
                    return true;
            }
        }

        void range(Node node, Node a, Node b) {
            if (node.operator.equals("?")) {
                a = node.taken.get(1);
                node.low = Math.min(a.low, b.low);
                node.high = Math.max(a.high, b.high);
                return;
            }
            if (node.operator.equals("%")) {
                long m = Math.max(Math.abs(b.low), Math.abs(b.high)) - 1;
                node.low = a.low >= 0 ? 0 : -Math.min(m, -a.low);
                node.high = a.high <= 0 ? 0 : Math.min(m, a.high);
                return;
            }
            node.low = Long.MAX_VALUE;
            node.high = Long.MIN_VALUE;
            for (long x : new long[] {a.low, a.high}) {
                for (long y : new long[] {b.low, b.high}) {
                    long gives = ends(node.operator, x, y);
                    node.low = Math.min(node.low, gives);
                    node.high = Math.max(node.high, gives);
                }
            }
            if (node.operator.equals("abs") && a.low < 0 && a.high > 0) node.low = 0;
        }

        long ends(String operator, long x, long y) {
            switch (operator) {
                case "neg": return -x;
                case "abs": return Math.abs(x);
                case "+": return x + y;
                case "-": return x - y;
                case "*": return x * y;
                case "/": return x / y;
                case "min": return Math.min(x, y);
                case "max": return Math.max(x, y);
                default: throw new AssertionError(operator);
            }
        }
    }
}
