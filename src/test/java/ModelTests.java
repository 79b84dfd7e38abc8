import java.util.Random;

/** Runs of random calls, always the same ones, on RangeReckoner and on the Model. */
public final class ModelTests {
    private static final int RUNS = 30000;
    private static final int MOST_CALLS = 512;
    private static final String[] SOUP = {
        "(", ")", ",", "?", ":", "+", "-", "*", "/", "%", "<", "<=", ">", ">=", "==", "!=", "!", "&&", "||",
        "min", "max", "abs", "min(", "max(", "abs(", "v0", "v1", "v2", "v19", "v007", "0", "1", "7", "2000000000",
        "2000000001", "00000000001", " ", "  ", "@", "&", "|", "=", "v", "m", "1<2", "v0<1"
    };

    private final Checks checks = new Checks();
    private final int[] faults = new int[8];
    private Random random;
    private RangeReckoner x;
    private Model model;
    private String log;
    private int calls;

    public static void main(String[] args) {
        ModelTests tests = new ModelTests();
        for (int run = 0; run < RUNS; run++) tests.run(run);
        for (int kind = 0; kind <= 6; kind++) {
            tests.checks.due("enough texts with fault " + kind + " of " + tests.faults[kind], tests.faults[kind] > 300, true);
        }
        tests.checks.end();
    }

    private void run(int seed) {
        random = new Random(seed);
        x = new RangeReckoner();
        model = new Model();
        log = "run " + seed;
        calls = 0;
        for (int k = random.nextInt(5); k > 0; k--) tellVariable();
        // The dearest turn asks thirty times, three calls each.
        while (calls <= MOST_CALLS - 90) {
            switch (random.nextInt(8)) {
                case 0: tellVariable(); break;
                case 1: case 2: giveValue(); break;
                case 3: case 4: takeText(); break;
                case 5: feedWild(); break;
                default: ask();
            }
            if (random.nextInt(40) == 0) break;
        }
    }

    private void due(String call, long got, long want) {
        calls++;
        checks.due(log + ": " + call, got, want);
    }

    private void tellVariable() {
        int low = number();
        int high = random.nextInt(4) == 0 ? number() : (int) Math.min(Integer.MAX_VALUE, (long) low + random.nextInt(50));
        due("variable(" + low + ", " + high + ")", x.variable(low, high), model.variable(low, high));
    }

    private void giveValue() {
        int variable = random.nextInt(8) == 0 ? number() : random.nextInt(21);
        int value = number();
        due("give(" + variable + ", " + value + ")", x.give(variable, value) ? 1 : 0, model.give(variable, value) ? 1 : 0);
    }

    private int number() {
        int[] edges = {0, 1, -1, 2000000000, -2000000000, 2000000001, -2000000001, Integer.MAX_VALUE, Integer.MIN_VALUE, 44721, 44722};
        switch (random.nextInt(10)) {
            case 0: return edges[random.nextInt(edges.length)];
            case 1: return random.nextInt();
            case 2: return random.nextInt(100000) - 50000;
            default: return random.nextInt(60) - 30;
        }
    }

    private void feedWild() {
        int a = random.nextBoolean() ? random.nextInt() : random.nextInt() & 0x7f7f7f7f;
        int b = random.nextBoolean() ? 0 : Checks.word("1+v0 ", random.nextInt(5));
        due("feed(" + a + ", " + b + ")", x.feed(a, b), model.feed(a, b));
    }

    private void takeText() {
        String text = text();
        for (int k = 0; k < text.length() && calls < MOST_CALLS - 2; k += 8) {
            int a = Checks.word(text, k);
            int b = Checks.word(text, k + 4);
            due("feed", x.feed(a, b), model.feed(a, b));
        }
        log = "text [" + text + "]";
        int fault = x.take();
        due("take", fault, model.take());
        faults[fault & 7]++;
    }

    private String text() {
        StringBuilder text = new StringBuilder();
        switch (random.nextInt(10)) {
            case 0:
                for (int k = random.nextInt(12); k >= 0; k--) text.append(SOUP[random.nextInt(SOUP.length)]);
                break;
            case 1:
                deep(text);
                break;
            case 2:
                chain(text);
                break;
            default:
                term(text, random.nextInt(6), random.nextBoolean());
        }
        if (random.nextInt(4) == 0) spoil(text);
        if (text.length() > 400) text.setLength(400);
        return text.toString();
    }

    /** Some thirty openings within one another, so that the 33rd is met or just not. */
    private void deep(StringBuilder text) {
        String[] openings = {"(", "-", "!", "abs(", "min(1,", "1<2?", "1<2?3:", "1+(", "1||1&&1<1+1*("};
        boolean same = random.nextInt(3) != 0;
        int one = random.nextInt(openings.length);
        for (int k = 28 + random.nextInt(8); k > 0; k--) {
            text.append(openings[same ? one : random.nextInt(openings.length)]);
        }
        text.append(random.nextBoolean() ? "v0" : "4");
        if (same) {
            String[] closings = {")", "", "", ")", ")", ":2", "", ")", ")"};
            text.append(closings[one].repeat(26 + random.nextInt(10)));
        }
    }

    /** Some fifty small parts in a row, so that the 101st is met or just not. */
    private void chain(StringBuilder text) {
        text.append("7");
        String[] links = {"+1", "-1", "*1", "/1", "%9", "+-1", "+(1)", "-v0", "+abs(1)", "+(1<2?3:4)"};
        for (int k = random.nextInt(70); k > 0; k--) text.append(links[random.nextInt(random.nextBoolean() ? 6 : links.length)]);
        if (random.nextInt(3) == 0) text.append(random.nextBoolean() ? "+(1<2)" : "/0");
    }

    private void spoil(StringBuilder text) {
        for (int k = random.nextInt(2); k >= 0 && text.length() > 0; k--) {
            int at = random.nextInt(text.length());
            if (random.nextBoolean()) text.deleteCharAt(at);
            else text.insert(at, SOUP[random.nextInt(SOUP.length)]);
        }
    }

    private void term(StringBuilder text, int size, boolean truth) {
        if (random.nextInt(60) == 0) truth = !truth;
        if (random.nextInt(6) == 0) text.append(' ');
        if (random.nextInt(9) == 0 && size > 0) {
            bracket(text, size - 1, true);
            text.append('?');
            term(text, size - 1, truth);
            text.append(':');
            term(text, size - 1, truth);
        } else if (truth) {
            truth(text, size);
        } else {
            number(text, size);
        }
    }

    private void bracket(StringBuilder text, int size, boolean truth) {
        boolean open = random.nextInt(3) == 0;
        if (open) text.append('(');
        term(text, size, truth);
        if (open) text.append(')');
    }

    private void truth(StringBuilder text, int size) {
        String[] comparisons = {"<", "<=", ">", ">=", "==", "!="};
        int kind = size == 0 ? 0 : random.nextInt(5);
        if (kind <= 1) {
            bracket(text, Math.max(0, size - 1), false);
            text.append(comparisons[random.nextInt(6)]);
            bracket(text, Math.max(0, size - 1), false);
        } else if (kind == 2) {
            text.append("!(");
            term(text, size - 1, true);
            text.append(")");
        } else if (kind == 3) {
            bracket(text, size - 1, true);
            text.append(random.nextBoolean() ? "&&" : "||");
            bracket(text, size - 1, true);
        } else {
            text.append("(");
            term(text, size - 1, true);
            text.append(random.nextBoolean() ? ")==(" : ")!=(");
            term(text, size - 1, true);
            text.append(")");
        }
    }

    private void number(StringBuilder text, int size) {
        int kind = size == 0 ? 0 : random.nextInt(10);
        if (kind == 0) {
            leaf(text);
        } else if (kind <= 5) {
            bracket(text, size - 1, false);
            text.append("+-*/%".charAt(random.nextInt(5)));
            if (random.nextBoolean()) text.append(1 + random.nextInt(9));
            else bracket(text, size - 1, false);
        } else if (kind == 6) {
            text.append('-');
            bracket(text, size - 1, false);
        } else if (kind == 7) {
            text.append("abs(");
            term(text, size - 1, false);
            text.append(')');
        } else {
            text.append(random.nextBoolean() ? "min(" : "max(");
            term(text, size - 1, false);
            text.append(',');
            term(text, size - 1, false);
            text.append(')');
        }
    }

    private void leaf(StringBuilder text) {
        int variables = model.count(0);
        if (variables > 0 && random.nextInt(3) != 0) text.append('v').append(random.nextInt(variables));
        else if (random.nextInt(20) == 0) text.append(Math.abs((long) number()));
        else text.append(random.nextInt(20));
    }

    private void ask() {
        for (int k = 0; k < 30; k++) {
            int i = random.nextInt(20) == 0 ? number() : random.nextInt(model.count(1) + 2) - 1;
            int what = random.nextInt(20) == 0 ? number() : random.nextInt(5);
            switch (random.nextInt(8)) {
                case 0: due("count(" + what + ")", x.count(what), model.count(what)); break;
                case 1: due("width()", x.width(), model.width()); break;
                case 2: case 3: case 4: askValue(i); break;
                default: due("part(" + i + ", " + what + ")", x.part(i, what), model.part(i, what));
            }
        }
    }

    private void askValue(int i) {
        boolean there = i >= 0 && i < model.count(1);
        long got = 0;
        boolean thrown = false;
        try {
            got = x.value(i);
        } catch (IndexOutOfBoundsException e) {
            thrown = true;
        }
        checks.due(log + ": value(" + i + ") throws", thrown, !there);
        calls++;
        if (there && !thrown) {
            checks.due(log + ": value(" + i + ")", got, model.value(i));
            checks.due(log + ": value(" + i + ") in its range", got >= x.part(i, 2) && got <= x.part(i, 3), true);
            calls += 2;
        }
    }
}
