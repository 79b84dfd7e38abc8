/** The sentences of the promises 1 to 9 that name a boundary case, each with a test of its own. */
public final class PromiseSentenceTests extends Texts {
    private static final int LEAST = -GREATEST;
    private static final int[] NO_SUCH = {-1, -2, 20, 21, 100, Integer.MAX_VALUE, Integer.MIN_VALUE};

    public static void main(String[] args) {
        checks.sentence("The constants: NONE = -1: There is none.", PromiseSentenceTests::none);
        newObject();
        variable();
        give();
        feed();
        take();
        part();
        value();
        width();
        count();
        checks.end();
    }

    private static void none() {
        checks.due("NONE", RangeReckoner.NONE, -1);
    }

    private static void newObject() {
        checks.sentence("1: No variables", PromiseSentenceTests::noVariables);
        checks.sentence("1: an empty tape", PromiseSentenceTests::emptyTape);
        checks.sentence("1: no term.", PromiseSentenceTests::noTerm);
    }

    private static void noVariables() {
        RangeReckoner x = new RangeReckoner();
        checks.due("variables", x.count(0), 0);
        for (int i = 0; i < 20; i++) checks.due("give(" + i + ", 0)", x.give(i, 0), false);
        checks.due("take of v0", Checks.take(x, "v0"), 1);
        checks.due("the first one's number", x.variable(0, 0), 0);
        checks.due("variables of another new one", new RangeReckoner().count(0), 0);
    }

    private static void emptyTape() {
        RangeReckoner x = new RangeReckoner();
        checks.due("length", x.count(2), 0);
        checks.due("feed of none", x.feed(0, 0), 0);
        checks.due("take", x.take(), 1);
        checks.due("feed of one", x.feed('1', 0), 1);
        checks.due("length of another new one", new RangeReckoner().count(2), 0);
    }

    private static void noTerm() {
        RangeReckoner x = new RangeReckoner();
        checks.due("parts", x.count(1), 0);
        checks.due("depth", x.count(3), 0);
        checks.due("width", x.width(), NONE);
        for (int what = 0; what < 4; what++) checks.due("part(0, " + what + ")", x.part(0, what), NONE);
        valueThrows(x, 0);
        Checks.take(x, "7");
        checks.due("parts of another new one", new RangeReckoner().count(1), 0);
    }

    private static void variable() {
        checks.sentence("2: The next variable: its number", PromiseSentenceTests::nextVariable);
        checks.sentence("2: its VALUE is 0", PromiseSentenceTests::zeroAtFirst);
        checks.sentence("2: or, if that is not in the RANGE, the end next to 0.", PromiseSentenceTests::endNextToZero);
        checks.sentence("2: NONE if there are 20", PromiseSentenceTests::twentyVariables);
        checks.sentence("2: high is below low", PromiseSentenceTests::highBelowLow);
        checks.sentence("2: or one is beyond what may be.", PromiseSentenceTests::beyondWhatMayBe);
    }

    private static void nextVariable() {
        RangeReckoner x = new RangeReckoner();
        for (int i = 0; i < 20; i++) {
            checks.due("variable " + i, x.variable(-i, i), i);
            checks.due("refused behind it", x.variable(1, 0), NONE);
        }
    }

    /** What a new variable's value is. */
    private static void atFirst(int low, int high, long value) {
        RangeReckoner x = new RangeReckoner();
        checks.due("variable(" + low + ", " + high + ")", x.variable(low, high), 0);
        Checks.take(x, "v0");
        checks.due("value in " + low + " .. " + high, x.value(0), value);
    }

    private static void zeroAtFirst() {
        atFirst(-1, 1, 0);
        atFirst(0, 1, 0);
        atFirst(-1, 0, 0);
        atFirst(0, 0, 0);
        atFirst(0, GREATEST, 0);
        atFirst(LEAST, 0, 0);
        atFirst(LEAST, GREATEST, 0);
    }

    private static void endNextToZero() {
        atFirst(1, 2, 1);
        atFirst(-2, -1, -1);
        atFirst(1, 1, 1);
        atFirst(-1, -1, -1);
        atFirst(1, GREATEST, 1);
        atFirst(LEAST, -1, -1);
        atFirst(GREATEST, GREATEST, GREATEST);
        atFirst(LEAST, LEAST, LEAST);
    }

    private static void twentyVariables() {
        RangeReckoner x = new RangeReckoner();
        for (int i = 0; i < 19; i++) x.variable(0, i);
        checks.due("the 20th", x.variable(0, 19), 19);
        checks.due("the 21st", x.variable(0, 20), NONE);
        checks.due("again", x.variable(0, 0), NONE);
        checks.due("how many", x.count(0), 20);
        checks.due("take of the 20th", Checks.take(x, "v19"), 0);
        checks.due("its range stays", x.part(0, 3), 19);
        checks.due("the 21st is none", Checks.take(x, "v20"), 1);
    }

    private static void refused(int low, int high) {
        RangeReckoner x = new RangeReckoner();
        checks.due("variable(" + low + ", " + high + ")", x.variable(low, high), NONE);
        checks.due("variables", x.count(0), 0);
    }

    private static void accepted(int low, int high) {
        RangeReckoner x = new RangeReckoner();
        checks.due("variable(" + low + ", " + high + ")", x.variable(low, high), 0);
        Checks.take(x, "v0");
        checks.due("low", x.part(0, 2), low);
        checks.due("high", x.part(0, 3), high);
    }

    private static void highBelowLow() {
        refused(1, 0);
        refused(0, -1);
        refused(-3, -4);
        refused(GREATEST, LEAST);
        refused(GREATEST, GREATEST - 1);
        refused(LEAST + 1, LEAST);
        accepted(0, 0);
        accepted(5, 5);
        accepted(-5, -5);
    }

    private static void beyondWhatMayBe() {
        refused(LEAST - 1, 0);
        refused(LEAST - 1, GREATEST);
        refused(LEAST - 1, LEAST - 1);
        refused(LEAST - 1, LEAST);
        refused(Integer.MIN_VALUE, 0);
        refused(0, GREATEST + 1);
        refused(LEAST, GREATEST + 1);
        refused(GREATEST, GREATEST + 1);
        refused(GREATEST + 1, GREATEST + 1);
        refused(0, Integer.MAX_VALUE);
        refused(Integer.MIN_VALUE, Integer.MAX_VALUE);
        accepted(LEAST, GREATEST);
        accepted(LEAST, LEAST);
        accepted(GREATEST, GREATEST);
    }

    private static void give() {
        checks.sentence("3: A variable's VALUE: true", PromiseSentenceTests::givenValues);
        checks.sentence("3: false if there is no such one", PromiseSentenceTests::giveToNone);
        checks.sentence("3: or it is not in its RANGE.", PromiseSentenceTests::giveBeyond);
    }

    private static void givenValues() {
        RangeReckoner x = five();
        Checks.take(x, "v1<v2");
        for (int value : new int[] {-20, -19, 0, 19, 20}) {
            checks.due("give(1, " + value + ")", x.give(1, value), true);
            checks.due("value", x.value(0), value);
            checks.due("another's value", x.value(1), 0);
        }
        checks.due("the greatest", x.give(2, GREATEST), true);
        checks.due("value", x.value(1), GREATEST);
        checks.due("the least", x.give(2, LEAST), true);
        checks.due("value", x.value(1), LEAST);
        checks.due("the same once more", x.give(2, LEAST), true);
    }

    private static void giveToNone() {
        RangeReckoner x = five();
        for (int i : NO_SUCH) checks.due("give(" + i + ", 0)", x.give(i, 0), false);
        checks.due("the first that there is not", x.give(5, 0), false);
        checks.due("the last that there is", x.give(4, 5), true);
        x.variable(0, 0);
        checks.due("now there is", x.give(5, 0), true);
        for (int i = 6; i < 20; i++) x.variable(0, 0);
        for (int i : NO_SUCH) checks.due("give(" + i + ", 0) with 20", x.give(i, 0), false);
        checks.due("give(19, 0) with 20", x.give(19, 0), true);
    }

    private static void giveBeyond() {
        RangeReckoner x = five();
        Checks.take(x, "v4");
        x.give(4, 7);
        for (int value : new int[] {2, 10, 0, -3, Integer.MIN_VALUE, Integer.MAX_VALUE}) {
            checks.due("give(4, " + value + ")", x.give(4, value), false);
            checks.due("value stays", x.value(0), 7);
        }
        checks.due("beyond all", x.give(2, GREATEST + 1), false);
        checks.due("beyond all", x.give(2, LEAST - 1), false);
        checks.due("0 to what is below it", x.give(3, 0), false);
        checks.due("the low end", x.give(4, 3), true);
        checks.due("the high end", x.give(4, 9), true);
    }

    private static void feed() {
        checks.sentence("4: Eight signs, the highest byte of a first", PromiseSentenceTests::eightSigns);
        checks.sentence("4: zeros left out", PromiseSentenceTests::zerosLeftOut);
        checks.sentence("4: how long the tape is", PromiseSentenceTests::lengthOfTape);
        checks.sentence("4: NONE, changing nothing, if one is none of the signs", PromiseSentenceTests::noSign);
        checks.sentence("4: or it would be longer than 400.", PromiseSentenceTests::tooLong);
    }

    private static void eightSigns() {
        RangeReckoner x = new RangeReckoner();
        checks.due("feed", x.feed(0x31323334, 0x35363738), 8);
        checks.due("take", x.take(), 0);
        checks.due("in their order", x.value(0), 12345678);
        checks.due("feed", x.feed(0x39383736, 0x2d313233), 8);
        checks.due("behind", x.feed(0x34353637, 0x38000000), 13);
        checks.due("take", x.take(), 0);
        checks.due("first", x.value(0), 9876);
        checks.due("second", x.value(1), 12345678);
    }

    private static void zerosLeftOut() {
        for (int shown = 0; shown < 256; shown++) {
            String text = "";
            int[] words = new int[2];
            for (int k = 0; k < 8; k++) {
                if ((shown >> k & 1) == 0) continue;
                text += (char) ('1' + k);
                words[k / 4] |= '1' + k << 24 - 8 * (k % 4);
            }
            RangeReckoner x = new RangeReckoner();
            checks.due("feed of " + text, x.feed(words[0], words[1]), text.length());
            checks.due("take of " + text, x.take(), text.isEmpty() ? 1 : 0);
            if (!text.isEmpty()) checks.due("value of " + text, x.value(0), Integer.parseInt(text));
        }
    }

    private static void lengthOfTape() {
        RangeReckoner x = new RangeReckoner();
        for (int k = 1; k <= 400; k++) checks.due("feed of sign " + k, x.feed(0, ' '), k);
        x.take();
        checks.due("after a take", x.feed(0, ' '), 1);
        checks.due("none more", x.feed(0, 0), 1);
    }

    private static boolean isSign(int sign) {
        return sign >= 32 && sign <= 126;
    }

    private static void noSign() {
        for (int sign = 1; sign < 256; sign++) {
            for (int k = 0; k < 8; k++) {
                RangeReckoner x = new RangeReckoner();
                Checks.feed(x, "12");
                int a = k < 4 ? 0x20202020 & ~(255 << 24 - 8 * k) | sign << 24 - 8 * k : 0x20202020;
                int b = k >= 4 ? 0x20202020 & ~(255 << 56 - 8 * k) | sign << 56 - 8 * k : 0x20202020;
                checks.due("feed of sign " + sign + " as " + k, x.feed(a, b), isSign(sign) ? 10 : NONE);
                checks.due("length", x.count(2), isSign(sign) ? 10 : 2);
                if (isSign(sign)) continue;
                Checks.feed(x, "+3");
                checks.due("the tape's signs stay", x.take(), 0);
                checks.due("their place", x.part(1, 0), 3);
            }
        }
    }

    private static void tooLong() {
        for (int free = 0; free < 8; free++) {
            RangeReckoner x = new RangeReckoner();
            Checks.feed(x, "1" + " ".repeat(399 - free));
            for (int signs = free + 1; signs <= 8; signs++) {
                String text = "+".repeat(signs);
                checks.due(signs + " signs where " + free + " fit", x.feed(Checks.word(text, 0), Checks.word(text, 4)), NONE);
                checks.due("length", x.count(2), 400 - free);
            }
            String text = " ".repeat(free);
            checks.due(free + " signs that fit", x.feed(Checks.word(text, 0), Checks.word(text, 4)), 400);
            checks.due("none more", x.feed(0, 0), 400);
            checks.due("one more", x.feed(0x20000000, 0), NONE);
            checks.due("what was refused is not there", x.take(), 0);
        }
    }

    private static void take() {
        checks.sentence("5: The tape is a term: 0, it is the one at hand", PromiseSentenceTests::takenTerm);
        checks.sentence("5: or its fault (the one at hand stays).", PromiseSentenceTests::termStays);
    }

    private static void takenTerm() {
        RangeReckoner x = five();
        checks.due("the first", Checks.take(x, "v0+1"), 0);
        checks.due("its value", x.value(2), 1);
        checks.due("a shorter one", Checks.take(x, "7"), 0);
        checks.due("its parts", x.count(1), 1);
        checks.due("its value", x.value(0), 7);
        checks.due("a longer one", Checks.take(x, "-v4*2"), 0);
        checks.due("its parts", x.count(1), 4);
        checks.due("its low end", x.part(3, 2), -18);
        checks.due("its depth", x.count(3), 3);
        checks.due("the same again", Checks.take(x, "-v4*2"), 0);
        checks.due("its parts", x.count(1), 4);
    }

    private static void termStays() {
        String[] faulty = {"", " ", "1+", "9+9*9-9@", "(1<2)+1", "1/0", "v2+9", "(".repeat(33), "1" + "+1".repeat(50), "v5"};
        int[] due = {1, 9, 17, 57, 42, 11, 20, 261, 798, 1};
        RangeReckoner x = five();
        for (int k = 0; k < faulty.length; k++) {
            checks.due("fault of " + faulty[k] + " without a term", Checks.take(x, faulty[k]), due[k]);
            checks.due("no term", x.count(1), 0);
            checks.due("no width", x.width(), NONE);
        }
        Checks.take(x, "v4-1");
        for (int k = 0; k < faulty.length; k++) {
            checks.due("fault of " + faulty[k], Checks.take(x, faulty[k]), due[k]);
            checks.due("parts", x.count(1), 3);
            checks.due("depth", x.count(3), 2);
            checks.due("width", x.width(), 7);
            checks.due("place", x.part(2, 0), 2);
            checks.due("low", x.part(2, 2), 2);
            x.give(4, 3 + k % 7);
            checks.due("value", x.value(2), 2 + k % 7);
        }
    }

    private static void part() {
        checks.sentence("6: what 0: its token's place", PromiseSentenceTests::tokensPlace);
        checks.sentence("6: 1: 0 NUMBER, 1 TRUTH", PromiseSentenceTests::kinds);
        checks.sentence("6: 2, 3: its RANGE's ends (TRUTH 0, 1).", PromiseSentenceTests::ends);
        checks.sentence("6: NONE if there is none such", PromiseSentenceTests::noPart);
        checks.sentence("6: (an end may be -1, too)", PromiseSentenceTests::endMinusOne);
    }

    private static void tokensPlace() {
        places("7", 0);
        places(" ".repeat(399) + "7", 399);
        places("1 <= 2 && v0 != v1", 0, 5, 2, 10, 16, 13, 7);
        places(" min ( 1 , max( 2,3 ) )", 7, 16, 18, 11, 1);
        places(" - abs ( v0 ) ", 9, 3, 1);
        places("1<2 ? 3 : 4", 0, 2, 1, 6, 10, 4);
    }

    private static void kinds() {
        RangeReckoner x = five();
        Checks.take(x, "!(v0<1)&&-1==abs(2)||(1<2)!=(min(1,2)<max(1,2))");
        String due = "0011" + "00001" + "1" + "001" + "00000011" + "1";
        checks.due("parts", x.count(1), due.length());
        for (int i = 0; i < due.length(); i++) checks.due("kind of part " + i, x.part(i, 1), due.charAt(i) - '0');
        Checks.take(x, "1<2?3:4");
        checks.due("a choice of numbers", x.part(5, 1), 0);
        Checks.take(x, "1<2?3<4:5<6");
        checks.due("a choice of truths", x.part(9, 1), 1);
    }

    private static void ends() {
        range("v2", LEAST, GREATEST);
        range("v3", -9, -3);
        range("0", 0, 0);
        range("2000000000", GREATEST, GREATEST);
        range("-2000000000", LEAST, LEAST);
        truth("1<2", 1);
        truth("1>2", 0);
        truth("!(1<2)", 0);
        truth("1<2?1<2:1>2", 1);
        truth("1<2&&1<2", 1);
        truth("1>2||1>2", 0);
    }

    private static void noPart() {
        RangeReckoner x = five();
        for (int what = -1; what < 5; what++) checks.due("part(0, " + what + ") without a term", x.part(0, what), NONE);
        Checks.take(x, "1" + "+1".repeat(49));
        Checks.take(x, "5+6");
        for (int what = -1; what < 5; what++) {
            for (int i : NO_SUCH) checks.due("part(" + i + ", " + what + ")", x.part(i, what), NONE);
            checks.due("part(3, " + what + ")", x.part(3, what), NONE);
        }
        for (int what : new int[] {-1, 4, 5, Integer.MAX_VALUE, Integer.MIN_VALUE}) {
            for (int i = 0; i < 3; i++) checks.due("part(" + i + ", " + what + ")", x.part(i, what), NONE);
        }
        checks.due("the last that there is", x.part(2, 3), 11);
        Checks.take(x, "-1" + "+1".repeat(49));
        checks.due("the last of 100", x.part(99, 0), 98);
        for (int what = 0; what < 4; what++) checks.due("part(100, " + what + ")", x.part(100, what), NONE);
    }

    private static void endMinusOne() {
        range("-1", -1, -1);
        range("v0-1", -1, 8);
        range("-1-v0", -10, -1);
        RangeReckoner x = new RangeReckoner();
        x.variable(-1, -1);
        Checks.take(x, "v0");
        checks.due("low", x.part(0, 2), -1);
        checks.due("high", x.part(0, 3), -1);
        checks.due("but there is such a part", x.part(0, 0), 0);
    }

    private static void value() {
        checks.sentence("7: Part i's VALUE by the variables' VALUES now.", PromiseSentenceTests::valuesNow);
        checks.sentence("7: IndexOutOfBoundsException: there is none such.", PromiseSentenceTests::valueOfNone);
    }

    private static void valuesNow() {
        RangeReckoner x = five();
        x.give(0, 3);
        Checks.take(x, "v0*v1-1");
        long[][] due = {{3, 0, 0, 1, -1}, {3, -20, -60, 1, -61}, {9, -20, -180, 1, -181}, {9, 20, 180, 1, 179}};
        int[][] given = {{0, 3}, {1, -20}, {0, 9}, {1, 20}};
        for (int k = 0; k < due.length; k++) {
            checks.due("give", x.give(given[k][0], given[k][1]), true);
            for (int i = 4; i >= 0; i--) checks.due("value(" + i + ") after " + k + " gives", x.value(i), due[k][i]);
        }
        x.give(0, 10);
        checks.due("after a give that is refused", x.value(4), 179);
        Checks.take(x, "v0");
        checks.due("in the next term, too", x.value(0), 9);
    }

    private static void valueOfNone() {
        RangeReckoner x = five();
        for (int i : NO_SUCH) valueThrows(x, i);
        valueThrows(x, 0);
        Checks.take(x, "1+");
        valueThrows(x, 0);
        Checks.take(x, "1+2");
        for (int i : NO_SUCH) valueThrows(x, i);
        valueThrows(x, 3);
        checks.due("the last that there is", x.value(2), 3);
        Checks.take(x, "-1" + "+1".repeat(49));
        valueThrows(x, 100);
        checks.due("the last of 100", x.value(99), 48);
        Checks.take(x, "5");
        valueThrows(x, 1);
    }

    private static void width() {
        checks.sentence("8: How many values the RANGE of the whole term has", PromiseSentenceTests::widths);
        checks.sentence("8: (TRUTH 2)", PromiseSentenceTests::widthOfTruth);
        checks.sentence("8: NONE without one.", PromiseSentenceTests::noWidth);
    }

    private static void widthIs(String text, long width) {
        RangeReckoner x = five();
        checks.due("take of " + text, Checks.take(x, text), 0);
        checks.due("width of " + text, x.width(), width);
    }

    private static void widths() {
        widthIs("5", 1);
        widthIs("-5", 1);
        widthIs("v0", 10);
        widthIs("v3", 7);
        widthIs("v1", 41);
        widthIs("v2", 4000000001L);
        widthIs("v0*0", 1);
        widthIs("v0+v1", 50);
        widthIs("v2%2000000000", 3999999999L);
        widthIs("v2/2", GREATEST + 1);
        widthIs("1<2?v3:v4", 19);
        widthIs("(v1)", 41);
    }

    private static void widthOfTruth() {
        widthIs("1<2", 2);
        widthIs("1>2", 2);
        widthIs("!(v0<5)", 2);
        widthIs("v2==v2", 2);
        widthIs("1<2?1<2:1<2", 2);
    }

    private static void noWidth() {
        RangeReckoner x = five();
        checks.due("of a new one", x.width(), NONE);
        Checks.feed(x, "v0");
        checks.due("of one that is not taken", x.width(), NONE);
        Checks.feed(x, "+");
        x.take();
        checks.due("after a fault", x.width(), NONE);
        Checks.take(x, "v0");
        checks.due("with one", x.width(), 10);
    }

    private static void count() {
        checks.sentence("9: what 0: variables", PromiseSentenceTests::countOfVariables);
        checks.sentence("9: 1: parts", PromiseSentenceTests::countOfParts);
        checks.sentence("9: 2: length of the tape", PromiseSentenceTests::countOfSigns);
        checks.sentence("9: 3: how deep the term at hand is (brackets none", PromiseSentenceTests::depths);
        checks.sentence("9: a part that takes none 1", PromiseSentenceTests::depthOfOne);
        checks.sentence("9: 0 without a term)", PromiseSentenceTests::noDepth);
        checks.sentence("9: NONE for another what.", PromiseSentenceTests::countOfNothing);
    }

    private static void countOfVariables() {
        RangeReckoner x = new RangeReckoner();
        for (int i = 0; i < 25; i++) {
            checks.due("variables", x.count(0), Math.min(i, 20));
            x.variable(1, 0);
            checks.due("after a refusal", x.count(0), Math.min(i, 20));
            x.variable(0, 1);
        }
    }

    private static void countOfParts() {
        RangeReckoner x = five();
        checks.due("without a term", x.count(1), 0);
        String[] texts = {"1", "((1))", "-1", "1+1", "min(1,1)", "abs(1)", "1<1?1:1", "-1" + "+1".repeat(49)};
        int[] due = {1, 1, 2, 3, 3, 2, 6, 100};
        for (int k = 0; k < texts.length; k++) {
            Checks.take(x, texts[k]);
            checks.due("parts of " + texts[k], x.count(1), due[k]);
            Checks.feed(x, "1+1+1");
            checks.due("what is only fed has none", x.count(1), due[k]);
            x.take();
        }
    }

    private static void countOfSigns() {
        RangeReckoner x = new RangeReckoner();
        checks.due("at first", x.count(2), 0);
        for (int k = 8; k <= 400; k += 8) {
            x.feed(0x20202020, 0x20202020);
            checks.due("length", x.count(2), k);
        }
        x.feed(0, 0x20);
        checks.due("after a refusal", x.count(2), 400);
        x.take();
        checks.due("after a take", x.count(2), 0);
    }

    private static void depths() {
        depth("-1", 2);
        depth("(-(1))", 2);
        depth("1+2", 2);
        depth("((1)+(2))", 2);
        depth("1+2+3", 3);
        depth("(1+2)+(3+4)", 3);
        depth("1+(2*(3-4))", 4);
        depth("min(1,-2)", 3);
        depth("max(-1,2)", 3);
        depth("abs(abs(1))", 3);
        depth("!(1<2)", 3);
        depth("1<2?3:4", 3);
        depth("-1<2?3:4", 4);
        depth("1<2?---3:4", 5);
        depth("1<2?3:---4", 5);
        depth("1<2?3:1<2?5:6", 4);
        depth("1" + "+1".repeat(49), 50);
        depth("1*(".repeat(32) + "1" + ")".repeat(32), 33);
    }

    private static void depthOfOne() {
        depth("7", 1);
        depth("v0", 1);
        depth("(7)", 1);
        depth("(".repeat(32) + "v0" + ")".repeat(32), 1);
    }

    private static void noDepth() {
        RangeReckoner x = five();
        checks.due("of a new one", x.count(3), 0);
        Checks.feed(x, "1+2");
        checks.due("of one that is not taken", x.count(3), 0);
        Checks.feed(x, "+");
        x.take();
        checks.due("after a fault", x.count(3), 0);
    }

    private static void countOfNothing() {
        RangeReckoner x = five();
        for (int turn = 0; turn < 2; turn++) {
            for (int what : new int[] {-1, -2, 4, 5, 8, 256, Integer.MAX_VALUE, Integer.MIN_VALUE}) {
                checks.due("count(" + what + ")", x.count(what), NONE);
            }
            Checks.take(x, "v0+1");
            Checks.feed(x, "1");
        }
    }
}
