/** What the tests ask of single texts; each class of tests extends it. */
class Texts {
    static final int NONE = RangeReckoner.NONE;
    static final int GREATEST = 2000000000;
    static final Checks checks = new Checks();

    /** v0 0..9, v1 -20..20, v2 all that may be, v3 -9..-3, v4 3..9. */
    static RangeReckoner five() {
        RangeReckoner x = new RangeReckoner();
        x.variable(0, 9);
        x.variable(-20, 20);
        x.variable(-GREATEST, GREATEST);
        x.variable(-9, -3);
        x.variable(3, 9);
        return x;
    }

    static void taken(String text) {
        checks.due("take of " + text, Checks.take(five(), text), 0);
    }

    static void fault(String text, int kind, int place) {
        checks.due("take of " + text, Checks.take(five(), text), kind + 8 * place);
    }

    static void range(String text, int low, int high) {
        RangeReckoner x = five();
        checks.due("take of " + text, Checks.take(x, text), 0);
        int whole = x.count(1) - 1;
        checks.due("kind of " + text, x.part(whole, 1), 0);
        checks.due("low of " + text, x.part(whole, 2), low);
        checks.due("high of " + text, x.part(whole, 3), high);
        checks.due("width of " + text, x.width(), (long) high - low + 1);
    }

    static void truth(String text, int value) {
        RangeReckoner x = five();
        checks.due("take of " + text, Checks.take(x, text), 0);
        int whole = x.count(1) - 1;
        checks.due("kind of " + text, x.part(whole, 1), 1);
        checks.due("low of " + text, x.part(whole, 2), 0);
        checks.due("high of " + text, x.part(whole, 3), 1);
        checks.due("width of " + text, x.width(), 2);
        checks.due("value of " + text, x.value(whole), value);
    }

    /** A term of digits alone, so that its value is plain to see. */
    static void worth(String text, long value) {
        RangeReckoner x = five();
        checks.due("take of " + text, Checks.take(x, text), 0);
        checks.due("value of " + text, x.value(x.count(1) - 1), value);
    }

    /** The tokens' places in the order in which the parts are numbered. */
    static void places(String text, int... places) {
        RangeReckoner x = five();
        checks.due("take of " + text, Checks.take(x, text), 0);
        checks.due("parts of " + text, x.count(1), places.length);
        for (int i = 0; i < places.length; i++) checks.due("place of part " + i + " of " + text, x.part(i, 0), places[i]);
    }

    static void valueThrows(RangeReckoner x, int i) {
        boolean thrown = false;
        try {
            x.value(i);
        } catch (IndexOutOfBoundsException e) {
            thrown = e.getClass() == IndexOutOfBoundsException.class;
        }
        checks.due("value(" + i + ") throws IndexOutOfBoundsException", thrown, true);
    }

    static void depth(String text, int deep) {
        RangeReckoner x = five();
        checks.due("take of " + text, Checks.take(x, text), 0);
        checks.due("depth of " + text, x.count(3), deep);
    }
}
