/** Every text of up to four of some tokens, on RangeReckoner and on the Model. */
public final class ShortTextTests {
    private static final int MOST_TOKENS = 4;
    private static final int MOST_CALLS = 512;
    private static final String[] TOKENS = {
        "1", "2000000000", "v0", "v1", "v7", "(", ")", ",", "?", ":", "-", "*", "/", "%", "<", "==", "!", "&&", "||",
        "min(", "abs(", " ", "@", "2000000001", "(1<2)"
    };

    private final Checks checks = new Checks();
    private RangeReckoner x;
    private Model model;
    private int calls;

    public static void main(String[] args) {
        ShortTextTests tests = new ShortTextTests();
        tests.renew();
        tests.spread("", MOST_TOKENS);
        tests.checks.end();
    }

    private void renew() {
        x = new RangeReckoner();
        model = new Model();
        calls = 0;
        due("variable", x.variable(-3, 5), model.variable(-3, 5));
        due("variable", x.variable(2, 4), model.variable(2, 4));
    }

    private void due(String call, long got, long want) {
        calls++;
        checks.due(call, got, want);
    }

    private void spread(String text, int more) {
        compare(text);
        if (more == 0) return;
        for (String token : TOKENS) spread(text + token, more - 1);
    }

    private void compare(String text) {
        // The dearest text has five feeds and nine parts, five calls each.
        if (calls > MOST_CALLS - 100) renew();
        for (int k = 0; k < text.length(); k += 8) {
            int a = Checks.word(text, k);
            int b = Checks.word(text, k + 4);
            due("feed of " + text, x.feed(a, b), model.feed(a, b));
        }
        int fault = x.take();
        due("take of " + text, fault, model.take());
        if (fault == 0) compareTerm(text);
    }

    private void compareTerm(String text) {
        due("parts of " + text, x.count(1), model.count(1));
        due("depth of " + text, x.count(3), model.count(3));
        due("width of " + text, x.width(), model.width());
        for (int i = 0; i < model.count(1) && i < x.count(1); i++) {
            calls++;
            for (int what = 0; what <= 3; what++) {
                due("part(" + i + ", " + what + ") of " + text, x.part(i, what), model.part(i, what));
            }
            due("value(" + i + ") of " + text, x.value(i), model.value(i));
        }
    }
}
