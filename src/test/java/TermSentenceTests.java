import java.util.Random;
import java.util.function.Consumer;
import java.util.stream.IntStream;

/** The sentences of the document's 'Terms' that name a boundary case, each with a test of its own. */
public final class TermSentenceTests extends Texts {
    private static final int LEAST = -GREATEST;
    private static final String[] NUMBER_OPERATORS = {"+", "-", "*", "/", "%"};
    private static final String[] COMPARISONS = {"<", "<=", ">", ">="};
    private static final String[] TOKENS = {
        "7", "v0", "min", "max", "abs", "(", ")", ",", "?", ":", "+", "-", "*", "/", "%",
        "<", "<=", ">", ">=", "==", "!=", "!", "&&", "||"
    };
    private static final String FIRSTS = " 7 v0 min max abs ( - ! ";
    private static final String SUMS = " + - * / % && || ? ";
    private static final String SIDES = SUMS + "< <= > >= == != ";
    private static final String[] ENDINGS = {"", " ", "@", ")", ",", ":", "7", "v0", "v", "min(", "(", "!", "=", "2000000001"};

    public static void main(String[] args) {
        use();
        variablesAndTape();
        tokens();
        grammar();
        kinds();
        parts();
        faults();
        limits();
        values();
        checks.end();
    }

    private static void use() {
        checks.sentence("each part's value lies in its range", TermSentenceTests::valuesInRanges);
        checks.sentence("An object is used for at most 512 calls after it has been made", TermSentenceTests::manyCalls);
        checks.sentence("What throws or is refused changes nothing but the tape.", TermSentenceTests::refusals);
    }

    private static void valuesInRanges() {
        String[] texts = {
            "v0*v1/v4-v3%v4", "v1%v3", "abs(v1)-min(v1,v3)", "v0<5?v1*v3:v2", "max(v1,-v1)%v4", "(v1-v0)/v3", "v2/v3", "v2%v4",
            "v0<v1||!(v3<v1)&&v1!=v4", "-v2", "abs(v2)/2", "v1*v1%7", "1<2?v2%1000:v2/v3", "v0*v4-v3*v4"
        };
        Random random = new Random(6);
        int[] lows = {0, -20, LEAST, -9, 3};
        int[] highs = {9, 20, GREATEST, -3, 9};
        for (String text : texts) {
            for (int turn = 0; turn < 20; turn++) {
                RangeReckoner x = five();
                checks.due("take of " + text, Checks.take(x, text), 0);
                for (int v = 0; v < 5; v++) {
                    long width = (long) highs[v] - lows[v] + 1;
                    long among = turn == 0 ? 0 : turn == 1 ? width - 1 : (long) (random.nextDouble() * width);
                    x.give(v, (int) (lows[v] + among));
                }
                inRanges(x, text);
            }
        }
    }

    private static void inRanges(RangeReckoner x, String text) {
        for (int i = 0; i < x.count(1); i++) {
            checks.due("value(" + i + ") in its range, of " + text, x.value(i) >= x.part(i, 2) && x.value(i) <= x.part(i, 3), true);
        }
    }

    private static void manyCalls() {
        RangeReckoner x = new RangeReckoner();
        x.variable(0, 9);
        int calls = 1;
        for (; calls + 4 <= 512; calls += 4) {
            checks.due("feed", x.feed(Checks.word("v0+1", 0), 0), 4);
            checks.due("take", x.take(), 0);
            checks.due("value", x.value(2), calls / 4 % 9 + 1);
            checks.due("give", x.give(0, (calls / 4 + 1) % 9), true);
        }
        for (; calls < 512; calls++) checks.due("call " + (calls + 1), x.width(), 10);
    }

    /** All that can be asked of an object whose term has each of its variables. */
    private static String shown(RangeReckoner x) {
        StringBuilder shown = new StringBuilder();
        for (int what : new int[] {0, 1, 3}) shown.append(x.count(what)).append(' ');
        for (int i = 0; i < x.count(1); i++) {
            for (int what = 0; what < 4; what++) shown.append(x.part(i, what)).append(' ');
            shown.append(x.value(i)).append(' ');
        }
        return shown.append(x.width()).toString();
    }

    private static RangeReckoner withTerm() {
        RangeReckoner x = five();
        x.give(0, 7);
        x.give(1, -3);
        x.give(2, 1234567);
        Checks.take(x, "v0<1?min(v1,v2):v3*-v4");
        return x;
    }

    private static void refusals() {
        String before = shown(withTerm());
        RangeReckoner x = withTerm();
        Checks.feed(x, "v1-");
        for (int i : new int[] {-1, 12, 100, Integer.MAX_VALUE, Integer.MIN_VALUE}) {
            valueThrows(x, i);
            x.part(i, 0);
            x.part(0, i < 0 ? i : i + 4);
            x.count(i < 0 ? i : i + 4);
            x.give(i, 0);
        }
        x.give(0, 10);
        x.give(3, 0);
        x.variable(1, 0);
        x.variable(0, GREATEST + 1);
        x.feed(0x31313131, 0x3131317f);
        x.feed(0x1f, 0);
        checks.due("as before", shown(x).equals(before), true);
        checks.due("the tape, too", Checks.take(x, "5"), 0);
        checks.due("its term", x.value(2), -8);
        String[] faulty = {"", "9+", "9+(1<2)", "9/0", "v2+1", "-".repeat(33), "1" + "+1".repeat(50)};
        for (String text : faulty) {
            RangeReckoner y = withTerm();
            checks.due("a fault in " + text, Checks.take(y, text) != 0, true);
            checks.due("as before", shown(y).equals(before), true);
            checks.due("but the tape", y.count(2), 0);
        }
    }

    private static void variablesAndTape() {
        checks.sentence("VARIABLES 0 .. 19 (at most)", TermSentenceTests::variables);
        checks.sentence("each with a RANGE low .. high, both from -2000000000 to 2000000000", TermSentenceTests::widestRange);
        checks.sentence("and a VALUE in it.", TermSentenceTests::valueInRange);
        checks.sentence("THE TAPE has at most 400 SIGNS", TermSentenceTests::mostSigns);
        checks.sentence("SIGNS, 32 .. 126", TermSentenceTests::signs);
        checks.sentence("what reads it makes it empty.", TermSentenceTests::readingEmpties);
    }

    private static void variables() {
        RangeReckoner x = new RangeReckoner();
        for (int i = 0; i < 20; i++) {
            checks.due("v" + i + " ahead of it", Checks.take(x, "v" + i), 1);
            checks.due("variable " + i, x.variable(i, i), i);
            checks.due("v" + i, Checks.take(x, "v" + i), 0);
            checks.due("its low end", x.part(0, 2), i);
        }
        checks.due("none more", x.variable(20, 20), NONE);
        for (int i = 20; i < 100; i++) checks.due("v" + i, Checks.take(x, "v" + i), 1);
    }

    private static void widestRange() {
        int[] ends = {LEAST - 1, LEAST, LEAST + 1, GREATEST - 1, GREATEST, GREATEST + 1};
        for (int low : ends) {
            for (int high : ends) {
                RangeReckoner x = new RangeReckoner();
                boolean may = low <= high && low >= LEAST && high <= GREATEST;
                checks.due("variable(" + low + ", " + high + ")", x.variable(low, high), may ? 0 : NONE);
                checks.due("take of v0", Checks.take(x, "v0"), may ? 0 : 1);
                checks.due("low", x.part(0, 2), may ? low : NONE);
                checks.due("high", x.part(0, 3), may ? high : NONE);
            }
        }
    }

    private static void valueInRange() {
        for (int low = -3; low <= 3; low++) {
            for (int high = low; high <= 3; high++) {
                RangeReckoner x = new RangeReckoner();
                x.variable(low, high);
                Checks.take(x, "v0");
                checks.due("first value in " + low + " .. " + high, x.value(0) >= low && x.value(0) <= high, true);
                for (int value = -5; value <= 5; value++) {
                    x.give(0, value);
                    checks.due("value in " + low + " .. " + high, x.value(0) >= low && x.value(0) <= high, true);
                }
            }
        }
    }

    private static void mostSigns() {
        RangeReckoner x = new RangeReckoner();
        for (int k = 1; k <= 399; k++) x.feed(' ', 0);
        checks.due("399", x.count(2), 399);
        checks.due("the 400th and the 401st", x.feed('1', '1'), NONE);
        checks.due("the 400th", x.feed('1', 0), 400);
        checks.due("the 401st", x.feed('1', 0), NONE);
        checks.due("take of 400", x.take(), 0);
        checks.due("place of the last", x.part(0, 0), 399);
    }

    private static void signs() {
        for (int sign = 1; sign < 256; sign++) {
            RangeReckoner x = new RangeReckoner();
            boolean may = sign >= 32 && sign <= 126;
            checks.due("feed of sign " + sign, x.feed(sign << 24, 0), may ? 1 : NONE);
            checks.due("feed of sign " + sign, x.feed(0, sign), may ? 2 : NONE);
        }
    }

    private static void readingEmpties() {
        String[] texts = {"1+2", "1+", "!1", "1/0", "v2+1", "(".repeat(33), "1" + "+1".repeat(50), " ".repeat(400), "@1+1"};
        for (String text : texts) {
            RangeReckoner x = five();
            Checks.take(x, text);
            checks.due("length after a take of " + text, x.count(2), 0);
            checks.due("the next text starts at place 0", Checks.take(x, "8"), 0);
            checks.due("its place", x.part(0, 0), 0);
        }
        RangeReckoner x = five();
        Checks.feed(x, "v0+");
        x.variable(0, 1);
        x.give(0, 3);
        x.part(0, 0);
        valueThrows(x, 0);
        x.width();
        x.count(2);
        checks.due("what does not read it leaves it", Checks.take(x, "2"), 0);
        checks.due("its value", x.value(2), 5);
    }

    private static void tokens() {
        checks.sentence("TOKENS, each as long as can be", TermSentenceTests::longestTokens);
        checks.sentence("spaces between", TermSentenceTests::spaces);
        checks.sentence("digits (a row of them, all of it one token", TermSentenceTests::digitsRow);
        checks.sentence("one of 11 or more, or above 2000000000, is none)", TermSentenceTests::digitsTooGreat);
        checks.sentence("v and 1 or 2 digits (a variable", TermSentenceTests::variableDigits);
        checks.sentence("a third digit begins the next token)", TermSentenceTests::thirdDigit);
        checks.sentence("min, max, abs, and ( ) , ? : + - * / % < <= > >= == != ! && ||", TermSentenceTests::allTokens);
    }

    private static void longestTokens() {
        truth("1<=1", 1);
        truth("1>=1", 1);
        truth("1==1", 1);
        truth("1!=1", 0);
        fault("1<==1", 1, 3);
        fault("1>==1", 1, 3);
        fault("1===1", 1, 3);
        fault("1!==1", 1, 3);
        fault("1<>1", 1, 2);
        fault("1><1", 1, 2);
        fault("!!=1", 1, 1);
        fault("1<2&&&1<2", 1, 5);
        fault("1<2|||1<2", 1, 5);
        fault("1<2&&&&1<2", 1, 5);
        fault("minmax(1,2)", 1, 3);
        fault("absmin(1,2)", 1, 3);
        worth("123456", 123456);
        RangeReckoner x = new RangeReckoner();
        for (int i = 0; i < 20; i++) x.variable(i, i);
        checks.due("v12", Checks.take(x, "v12"), 0);
        checks.due("it is variable 12", x.value(0), 12);
        checks.due("v1 2", Checks.take(x, "v1 2"), 1 + 8 * 3);
    }

    private static void spaces() {
        worth("1+2*3", 7);
        worth(" 1 + 2 * 3 ", 7);
        worth("   1   +   2*   3   ", 7);
        worth(" ".repeat(399) + "7", 7);
        worth("7" + " ".repeat(399), 7);
        worth(" min ( 1 , 2 ) ", 1);
        truth(" ! ( 1 <= 2 ) ", 0);
        worth(" 1 < 2 ? 3 : 4 ", 3);
        worth(" - - 5", 5);
        fault("1 2", 1, 2);
        fault("1< =2", 1, 3);
        fault("1! =2", 1, 1);
        fault("1= =2", 1, 1);
        fault("1<2& &1<2", 1, 3);
        fault("1<2| |1<2", 1, 3);
        fault("m in(1,2)", 1, 0);
        fault("mi n(1,2)", 1, 0);
        fault("ab s(1)", 1, 0);
        fault("v 0", 1, 0);
        fault("1+_1", 1, 2);
    }

    private static void digitsRow() {
        worth("0", 0);
        worth("00", 0);
        worth("7", 7);
        worth("1234567890", 1234567890);
        worth("0000000000", 0);
        worth("0000000012", 12);
        places("1234567890+1", 0, 11, 10);
        fault("1 1", 1, 2);
        fault("7v0", 1, 1);
        fault("0x10", 1, 1);
        fault("1.5", 1, 1);
        fault("1_0", 1, 1);
    }

    private static void digitsTooGreat() {
        worth("1999999999", 1999999999);
        worth("2000000000", GREATEST);
        String[] none = {
            "2000000001", "2000000002", "2147483647", "2147483648", "4294967296", "4294967297", "9999999999",
            "00000000000", "00000000001", "10000000000", "02000000000", "18446744073709551616", "18446744073709551617",
            "1".repeat(400), "0".repeat(400)
        };
        for (String row : none) {
            fault(row, 1, 0);
            if (row.length() == 400) continue;
            fault("1+ " + row + "+1", 1, 3);
            fault("-" + row, 1, 1);
            fault("1 " + row, 1, 2);
        }
    }

    private static void variableDigits() {
        range("v0", 0, 9);
        range("v4", 3, 9);
        range("v00", 0, 9);
        range("v04", 3, 9);
        fault("v", 1, 0);
        fault("v+1", 1, 0);
        fault("1+v", 1, 2);
        fault("vv0", 1, 0);
        fault("v 0", 1, 0);
        fault("v-1", 1, 0);
        fault("V0", 1, 0);
        fault("1v", 1, 1);
        fault("v05", 1, 0);
        fault("v40", 1, 0);
        fault("v/", 1, 0);
        fault("v:", 1, 0);
    }

    private static void thirdDigit() {
        fault("v000", 1, 3);
        fault("v001", 1, 3);
        fault("v0400000000000", 1, 3);
        fault("1+v012", 1, 5);
        fault("v050", 1, 0);
        fault("v123", 1, 0);
        RangeReckoner x = new RangeReckoner();
        for (int i = 0; i < 20; i++) x.variable(i, i);
        checks.due("v123 where there is v12", Checks.take(x, "v123"), 1 + 8 * 3);
        checks.due("v199 where there is v19", Checks.take(x, "v199"), 1 + 8 * 3);
        checks.due("v19", Checks.take(x, "v19"), 0);
    }

    private static void allTokens() {
        String[] texts = {"min(1,2)", "max(1,2)", "abs(1)", "(1)", "1<2?1:2", "1+2", "1-2", "1*2", "1/2", "1%2", "1<2", "1<=2", "1>2", "1>=2",
            "1==2", "1!=2", "!(1<2)", "1<2&&1<2", "1<2||1<2", "v0"};
        for (String text : texts) taken(text);
        String known = " 0123456789()?:+-*/%<>!,";
        for (char sign = 33; sign < 127; sign++) {
            if (known.indexOf(sign) >= 0) continue;
            fault("" + sign, 1, 0);
            fault("1" + sign, 1, 1);
            fault("1+" + sign, 1, 2);
            fault("(1)" + sign, 1, 3);
            fault("min" + sign, 1, 3);
            fault("1<2" + sign + "1<2", 1, 3);
        }
        for (String word : new String[] {"mi", "ma", "ab", "mim", "mix", "man", "mab", "abx", "aba", "axs", "mxx", "MIN", "Max", "aBs", "sba"}) {
            fault(word, 1, 0);
            fault(word + "(1,2)", 1, 0);
            fault("1 " + word, 1, 2);
        }
    }

    private static void grammar() {
        checks.sentence("A TERM: or, or or ? TERM : TERM.", TermSentenceTests::choices);
        checks.sentence("or: and || and ..", TermSentenceTests::ors);
        checks.sentence("and: is && is ..", TermSentenceTests::ands);
        checks.sentence("is: sum, or sum, one of < <= > >= == !=, sum.", TermSentenceTests::comparisons);
        checks.sentence("sum: product + - product .. product: front * / % front .. (from the left).", TermSentenceTests::sumsAndProducts);
        checks.sentence("front: - front, ! front, first.", TermSentenceTests::fronts);
        checks.sentence("first: digits, a variable, ( TERM ), min ( TERM , TERM ), max ( TERM , TERM ), abs ( TERM ).", TermSentenceTests::firsts);
    }

    private static void choices() {
        worth("1<2?3:4", 3);
        worth("1>2?3:4", 4);
        worth("1>2?3:1>2?5:6", 6);
        worth("1<2?1>2?3:4:5", 4);
        worth("1<2?1<2?3:4:1<2?5:6", 3);
        worth("1>2?3:4+10", 14);
        worth("(1>2?3:4)+10", 14);
        worth("(1<2?3:4)+10", 13);
        worth("1>2||1<2?3:4", 3);
        worth("(1>2)?3:4", 4);
        places("1<2?3:1<2?5:6", 0, 2, 1, 4, 6, 8, 7, 10, 12, 9, 3);
        places("1<2?1<2?3:4:5", 0, 2, 1, 4, 6, 5, 8, 10, 7, 12, 3);
        fault("1<2?3", 1, 5);
        fault("1<2?:4", 1, 4);
        fault("1<2?3:", 1, 6);
        fault("1<2?3:4:5", 1, 7);
        fault("?1:2", 1, 0);
        fault("1<2?1<2?3:4", 1, 11);
    }

    private static void ors() {
        truth("1>2||1>2||1<2", 1);
        truth("1<2||1<2&&1>2", 1);
        truth("1>2&&1>2||1<2", 1);
        places("1<2||1<2||1<2", 0, 2, 1, 5, 7, 6, 3, 10, 12, 11, 8);
        places("1<2||1<2&&1<2", 0, 2, 1, 5, 7, 6, 10, 12, 11, 8, 3);
        fault("||1<2", 1, 0);
        fault("1<2||", 1, 5);
        fault("1<2|| ||1<2", 1, 6);
        fault("1<2||&&1<2", 1, 5);
    }

    private static void ands() {
        truth("1<2&&1<2&&1>2", 0);
        truth("1<2||1<2&&1>2", 1);
        truth("(1<2||1<2)&&1>2", 0);
        truth("1<2&&!(1>2)", 1);
        places("1<2&&1<2&&1<2", 0, 2, 1, 5, 7, 6, 3, 10, 12, 11, 8);
        places("1<2&&1<2||1<2", 0, 2, 1, 5, 7, 6, 3, 10, 12, 11, 8);
        fault("&&1<2", 1, 0);
        fault("1<2&&", 1, 5);
        fault("1<2&&||1<2", 1, 5);
    }

    private static void comparisons() {
        String[] all = {"<", "<=", ">", ">=", "==", "!="};
        for (String one : all) {
            taken("1" + one + "2");
            taken("1+1" + one + "2*3");
            taken("1" + one + "2&&3" + one + "4");
            fault(one + "1", 1, 0);
            fault("1" + one, 1, 1 + one.length());
            for (String other : all) {
                fault("1" + one + "2" + other + "3", 1, 2 + one.length());
                taken("(1" + one + "2)==(2" + other + "3)");
                fault("1<2&&1" + one + "2" + other + "3", 1, 7 + one.length());
                fault("(1" + one + "2" + other + "3)", 1, 3 + one.length());
            }
        }
        taken("7");
    }

    private static void sumsAndProducts() {
        worth("10-3-2", 5);
        worth("10-3+2", 9);
        worth("10+3-2+1", 12);
        worth("100/7/2", 7);
        worth("100/7*2", 28);
        worth("100%7*2", 4);
        worth("2*7%4", 2);
        worth("1+2*3", 7);
        worth("1*2+3", 5);
        worth("10-2*3-1", 3);
        worth("10-6/3-1", 7);
        worth("10-7%4-1", 6);
        places("1-2-3", 0, 2, 1, 4, 3);
        places("1*2/3%4", 0, 2, 1, 4, 3, 6, 5);
        places("1-2*3+4", 0, 2, 4, 3, 1, 6, 5);
        for (String one : NUMBER_OPERATORS) {
            fault("1" + one, 1, 2);
            fault("1" + one + "*2", 1, 2);
            if (!one.equals("-")) fault(one + "1", 1, 0);
        }
    }

    private static void fronts() {
        worth("-5", -5);
        worth("--5", 5);
        worth("---5", -5);
        worth("1--1", 2);
        worth("1+-1", 0);
        worth("2*-3", -6);
        worth("-2*3", -6);
        worth("-7/2", -3);
        worth("-(2-5)", 3);
        truth("!!(1<2)", 1);
        truth("!(1>2)&&1<2", 1);
        places("-1*2", 1, 0, 3, 2);
        places("!(1<2)==(1<2)", 2, 4, 3, 0, 9, 11, 10, 6);
        fault("!1<2", 2, 0);
        fault("-!(1<2)", 2, 0);
        fault("!-1", 2, 0);
        fault("-", 1, 1);
        fault("!", 1, 1);
        fault("+1", 1, 0);
        fault("-+1", 1, 1);
    }

    private static void firsts() {
        worth("7", 7);
        range("v3", -9, -3);
        worth("(1<2?3:4)", 3);
        worth("min(1<2?3:4,5)", 3);
        worth("max(1>2?3:4,1<2?6:5)", 6);
        worth("abs(1<2?-3:4)", 3);
        worth("min(max(1,2),abs(-3))", 2);
        fault("()", 1, 1);
        fault("min()", 1, 4);
        fault("min(1)", 1, 5);
        fault("min(1,)", 1, 6);
        fault("min(1,2,3)", 1, 7);
        fault("max(,2)", 1, 4);
        fault("max 1,2", 1, 4);
        fault("abs()", 1, 4);
        fault("abs(1,2)", 1, 5);
        fault("abs 1", 1, 4);
        fault("(1,2)", 1, 2);
        fault("(1", 1, 2);
        fault("min(1,2", 1, 7);
        fault("1)", 1, 1);
    }

    private static void kinds() {
        checks.sentence("digits: it alone; a variable: its RANGE.", TermSentenceTests::rangesOfFirsts);
        checks.sentence("- + * / abs min max: the least and greatest that the ends of what they take give", TermSentenceTests::rangesOfEnds);
        checks.sentence("(abs: 0 if both signs may be", TermSentenceTests::rangesOfAbs);
        checks.sentence("/ towards 0)", TermSentenceTests::rangesOfQuotients);
        checks.sentence("%: with m = the greatest |divisor| less 1: from -min(m, -low)", TermSentenceTests::rangesOfRests);
        checks.sentence("0 if low is not below 0, to min(m, high), 0 if high is not above 0.", TermSentenceTests::restsAtZero);
        checks.sentence("? : : of both.", TermSentenceTests::rangesOfChoices);
        checks.sentence("< <= > >= take NUMBERS", TermSentenceTests::kindsOfComparisons);
        checks.sentence("== != two of one kind", TermSentenceTests::kindsOfSame);
        checks.sentence("&& || ! and what stands ahead of ? TRUTHS; these give TRUTH.", TermSentenceTests::kindsOfTruths);
    }

    /** The range of a text over v0 and v1, whose ranges are told. */
    private static void rangeOver(int[] ends, String text, long low, long high) {
        RangeReckoner x = new RangeReckoner();
        x.variable(ends[0], ends[1]);
        x.variable(ends[2], ends[3]);
        String told = text + " over " + ends[0] + " .. " + ends[1] + ", " + ends[2] + " .. " + ends[3];
        checks.due("take of " + told, Checks.take(x, text), 0);
        checks.due("low of " + told, x.part(x.count(1) - 1, 2), low);
        checks.due("high of " + told, x.part(x.count(1) - 1, 3), high);
    }

    /** All pairs of ranges with ends from -4 to 4. */
    private static void forPairs(Consumer<int[]> test) {
        for (int a = -4; a <= 4; a++) {
            for (int b = a; b <= 4; b++) {
                for (int c = -4; c <= 4; c++) {
                    for (int d = c; d <= 4; d++) test.accept(new int[] {a, b, c, d});
                }
            }
        }
    }

    private static int least(int... numbers) {
        return IntStream.of(numbers).min().getAsInt();
    }

    private static int greatest(int... numbers) {
        return IntStream.of(numbers).max().getAsInt();
    }

    private static void rangesOfFirsts() {
        for (int number : new int[] {0, 1, 9, GREATEST - 1, GREATEST}) range("" + number, number, number);
        forPairs(ends -> {
            rangeOver(ends, "v0", ends[0], ends[1]);
            rangeOver(ends, "v1", ends[2], ends[3]);
        });
        rangeOver(new int[] {LEAST, GREATEST, LEAST, LEAST}, "v0", LEAST, GREATEST);
        rangeOver(new int[] {LEAST, GREATEST, LEAST, LEAST}, "v1", LEAST, LEAST);
    }

    private static void rangesOfEnds() {
        forPairs(ends -> {
            int a = ends[0];
            int b = ends[1];
            int c = ends[2];
            int d = ends[3];
            rangeOver(ends, "-v0", -b, -a);
            rangeOver(ends, "v0+v1", a + c, b + d);
            rangeOver(ends, "v0-v1", a - d, b - c);
            rangeOver(ends, "v0*v1", least(a * c, a * d, b * c, b * d), greatest(a * c, a * d, b * c, b * d));
            rangeOver(ends, "min(v0,v1)", Math.min(a, c), Math.min(b, d));
            rangeOver(ends, "max(v0,v1)", Math.max(a, c), Math.max(b, d));
        });
        range("v2+0", LEAST, GREATEST);
        range("v2*-1", LEAST, GREATEST);
        range("-v2", LEAST, GREATEST);
        range("v2/1", LEAST, GREATEST);
        range("v2/-1", LEAST, GREATEST);
    }

    private static void rangesOfAbs() {
        forPairs(ends -> {
            int low = Math.abs(ends[0]);
            int high = Math.abs(ends[1]);
            boolean bothSigns = ends[0] < 0 && ends[1] > 0;
            rangeOver(ends, "abs(v0)", bothSigns ? 0 : Math.min(low, high), Math.max(low, high));
        });
        range("abs(v2)", 0, GREATEST);
        range("abs(-2000000000)", GREATEST, GREATEST);
        range("abs(v3)", 3, 9);
    }

    private static void rangesOfQuotients() {
        range("7/2", 3, 3);
        range("-7/2", -3, -3);
        range("7/-2", -3, -3);
        range("-7/-2", 3, 3);
        range("1/2", 0, 0);
        range("-1/2", 0, 0);
        range("v1/v4", -6, 6);
        range("v3/v4", -3, 0);
        range("v4/v3", -3, 0);
        range("v2/3", -666666666, 666666666);
        forPairs(ends -> {
            int a = ends[0];
            int b = ends[1];
            int c = ends[2];
            int d = ends[3];
            if (c <= 0 && d >= 0) return;
            rangeOver(ends, "v0/v1", least(a / c, a / d, b / c, b / d), greatest(a / c, a / d, b / c, b / d));
        });
    }

    private static void rangesOfRests() {
        forPairs(ends -> {
            if (ends[2] <= 0 && ends[3] >= 0) return;
            int m = Math.max(Math.abs(ends[2]), Math.abs(ends[3])) - 1;
            rangeOver(ends, "v0%v1", ends[0] < 0 ? -Math.min(m, -ends[0]) : 0, ends[1] > 0 ? Math.min(m, ends[1]) : 0);
        });
        range("v1%7", -6, 6);
        range("v1%20", -19, 19);
        range("v1%21", -20, 20);
        range("v1%22", -20, 20);
        range("v1%-20", -19, 19);
        range("v1%1", 0, 0);
        range("v1%-1", 0, 0);
        range("v1%2", -1, 1);
        range("v1%v3", -8, 8);
        range("v2%2000000000", -1999999999, 1999999999);
        range("7%7", 0, 6);
        range("7%8", 0, 7);
    }

    private static void restsAtZero() {
        range("v0%100", 0, 9);
        range("v4%100", 0, 9);
        range("v4%v3", 0, 8);
        range("v3%100", -9, 0);
        range("v3%v4", -8, 0);
        range("-v0%5", -4, 0);
        range("0%5", 0, 0);
        range("(v0-1)%100", -1, 8);
        range("(1-v0)%100", -8, 1);
    }

    private static void rangesOfChoices() {
        forPairs(ends -> {
            rangeOver(ends, "1<2?v0:v1", Math.min(ends[0], ends[2]), Math.max(ends[1], ends[3]));
            rangeOver(ends, "1>2?v0:v1", Math.min(ends[0], ends[2]), Math.max(ends[1], ends[3]));
        });
        range("1<2?2000000000:-2000000000", LEAST, GREATEST);
        truth("1<2?1<2:1>2", 1);
        fault("1<2?1:1<2", 2, 3);
        fault("1<2?1<2:1", 2, 3);
    }

    private static void kindsOfComparisons() {
        for (String one : COMPARISONS) {
            taken("1" + one + "2");
            fault("(1<2)" + one + "3", 2, 5);
            fault("3" + one + "(1<2)", 2, 1);
            fault("(1<2)" + one + "(1<2)", 2, 5);
            truth("1" + one + "2", one.startsWith("<") ? 1 : 0);
            truth("2" + one + "1", one.startsWith(">") ? 1 : 0);
            truth("1" + one + "1", one.endsWith("=") ? 1 : 0);
        }
    }

    private static void kindsOfSame() {
        for (String one : new String[] {"==", "!="}) {
            int same = one.equals("==") ? 1 : 0;
            truth("1" + one + "1", same);
            truth("1" + one + "2", 1 - same);
            truth("(1<2)" + one + "(3<4)", same);
            truth("(1>2)" + one + "(3>4)", same);
            truth("(1<2)" + one + "(3>4)", 1 - same);
            fault("(1<2)" + one + "1", 2, 5);
            fault("1" + one + "(1<2)", 2, 1);
            fault("(1>2)" + one + "0", 2, 5);
        }
    }

    private static void kindsOfTruths() {
        for (String one : new String[] {"&&", "||"}) {
            fault("1<2" + one + "3", 2, 3);
            fault("3" + one + "1<2", 2, 1);
            fault("1" + one + "1", 2, 1);
            for (int a = 0; a < 2; a++) {
                for (int b = 0; b < 2; b++) truth("1==" + a + one + "1==" + b, one.equals("&&") ? a & b : a | b);
            }
        }
        fault("!1", 2, 0);
        fault("!v0", 2, 0);
        fault("!0", 2, 0);
        truth("!(1<2)", 0);
        truth("!(1>2)", 1);
        fault("1?2:3", 2, 1);
        fault("v0?2:3", 2, 2);
        fault("1?1<2:1<2", 2, 1);
        taken("1<2?2:3");
    }

    private static void parts() {
        checks.sentence("PARTS of a text that is taken: each digits, variable, and operator (also min, max, abs, ?)", TermSentenceTests::eachPart);
        checks.sentence("numbered as they are READ to their end (an operator's, when its last part is)", TermSentenceTests::numbering);
        checks.sentence("brackets are none.", TermSentenceTests::noBrackets);
    }

    private static void eachPart() {
        places("7", 0);
        places("v0", 0);
        places("-7", 1, 0);
        places("!(1<2)", 2, 4, 3, 0);
        String[] sides = {"+", "-", "*", "/", "%", "<", "<=", ">", ">=", "==", "!="};
        for (String one : sides) places("1" + one + "2", 0, 1 + one.length(), 1);
        places("1<2&&3<4", 0, 2, 1, 5, 7, 6, 3);
        places("1<2||3<4", 0, 2, 1, 5, 7, 6, 3);
        places("min(1,2)", 4, 6, 0);
        places("max(1,2)", 4, 6, 0);
        places("abs(1)", 4, 0);
        places("1<2?3:4", 0, 2, 1, 4, 6, 3);
    }

    private static void numbering() {
        places("1+2*3", 0, 2, 4, 3, 1);
        places("1*2+3", 0, 2, 1, 4, 3);
        places("-1+2", 1, 0, 3, 2);
        places("-1*-2", 1, 0, 4, 3, 2);
        places("-(1+2)", 2, 4, 3, 0);
        places("1<2+3&&4<5", 0, 2, 4, 3, 1, 7, 9, 8, 5);
        places("min(1+2,3*4)-5", 4, 6, 5, 8, 10, 9, 0, 13, 12);
        places("abs(-1)*2", 5, 4, 0, 8, 7);
        places("1<2?3+4:5*6", 0, 2, 1, 4, 6, 5, 8, 10, 9, 3);
    }

    private static void noBrackets() {
        places("(7)", 1);
        places("(((7)))", 3);
        places("((1)+(2))", 2, 6, 4);
        places("min((1),(2))", 5, 9, 0);
        checks.due("150 brackets and 100 parts", Checks.take(five(), "(((1)))+".repeat(49) + "-(((1)))"), 0);
    }

    private static void faults() {
        checks.sentence("FAULTS: kind + 8 * place", TermSentenceTests::faultsPlace);
        checks.sentence("reading goes from left to right, the first met is told", TermSentenceTests::firstFault);
        checks.sentence("of what an operator takes is asked when its last part was read", TermSentenceTests::askedAtLastPart);
        checks.sentence("ahead of looking at the token behind.", TermSentenceTests::aheadOfTokenBehind);
        checks.sentence("1 a token that can't come", TermSentenceTests::cannotCome);
        checks.sentence("(also none, a number too great, a variable that there is not", TermSentenceTests::noSuchToken);
        checks.sentence("the end), at it.", TermSentenceTests::theEnd);
        checks.sentence("2 a wrong kind", TermSentenceTests::wrongKinds);
        checks.sentence("3 / or % by what may be 0", TermSentenceTests::byZero);
        checks.sentence("4 a RANGE beyond -2000000000 .. 2000000000", TermSentenceTests::beyond);
        checks.sentence("at the operator, the least.", TermSentenceTests::leastFault);
    }

    private static void faultsPlace() {
        for (int k = 0; k < 399; k++) {
            String ahead = " ".repeat(k);
            fault(ahead + "@", 1, k);
            if (k % 50 != 0) continue;
            fault(ahead + "!1", 2, k);
            fault(ahead + "1/0", 3, k + 1);
            fault(ahead + "v2+1", 4, k + 2);
            if (k < 350) fault(ahead + "-".repeat(33), 5, k + 32);
            if (k < 300) fault(ahead + "1+".repeat(49) + "1+1", 6, k + 99);
        }
        fault(" ".repeat(399) + "@", 1, 399);
        fault(" ".repeat(400), 1, 400);
    }

    private static void firstFault() {
        fault("@+(1<2)+1/0", 1, 0);
        fault("!1+@", 2, 0);
        fault("1/0+@", 3, 1);
        fault("v2+1+1/0+@", 4, 2);
        fault("1/0+(v2+1)", 3, 1);
        fault("(1<2)+1/0", 3, 7);
        fault("(1<2)+(v2+1)", 4, 9);
        fault("1/0+" + "(".repeat(33), 3, 1);
        fault("(".repeat(33) + "1/0", 5, 32);
        fault("!1" + "+1".repeat(60), 2, 0);
        fault("1" + "+1".repeat(60) + "/0", 6, 99);
        fault("1?2:1/0", 3, 5);
        fault("1?2:3+@", 1, 6);
        fault("min(1<2,1/0)", 3, 9);
    }

    private static void askedAtLastPart() {
        fault("(1<2)+@", 1, 6);
        fault("(1<2)+3*@", 1, 8);
        fault("(1<2)+3*4", 2, 5);
        fault("(1<2)*@", 1, 6);
        fault("(1<2)<@", 1, 6);
        fault("(1<2)<3+@", 1, 8);
        fault("1&&@", 1, 3);
        fault("1&&2<@", 1, 5);
        fault("1||2<3&&@", 1, 8);
        fault("1?@", 1, 2);
        fault("1?2@", 1, 3);
        fault("1?2:@", 1, 4);
        fault("1?2:3", 2, 1);
        fault("1<2?1:1<2&&@", 1, 11);
        fault("min(1<2@", 1, 7);
        fault("min(1<2,@", 1, 8);
        fault("min(1<2,3", 2, 0);
        fault("-(1<2", 1, 5);
        fault("-(1<2)", 2, 0);
        fault("1+(1<2@", 1, 6);
        fault("1/(0", 1, 4);
        fault("1/(0)", 3, 1);
    }

    private static void aheadOfTokenBehind() {
        for (String ending : ENDINGS) {
            fault("1+(1<2)" + ending, 2, 1);
            fault("1*(1<2)" + ending, 2, 1);
            fault("-(1<2)" + ending, 2, 0);
            fault("1<(1<2)" + ending, 2, 1);
            fault("1==(1<2)" + ending, 2, 1);
            fault("1&&1<2" + (ending.startsWith("7") || ending.startsWith("2") ? " " : "") + ending, 2, 1);
            fault("1||(1<2)" + ending, 2, 1);
            fault("1?2:(3)" + ending, 2, 1);
            fault("(1?2:(3)" + ending, 2, 2);
            fault("min(1<2,(3)" + ending, 2, 0);
            fault("max(1,(1<2)" + ending, 2, 0);
            fault("abs((1<2)" + ending, 2, 0);
            fault("1/(0)" + ending, 3, 1);
            fault("1%(0)" + ending, 3, 1);
            fault("v2+(1)" + ending, 4, 2);
            fault("abs(v2+(1)" + ending, 4, 6);
            fault("1<2?v2+(1)" + ending, 4, 6);
            fault("1" + "+1".repeat(48) + "+(1)+(1)" + ending, 6, 101);
        }
        fault("1*(1<2)*@", 2, 1);
        fault("1+(1<2)+@", 2, 1);
        fault("1+(1<2)<@", 2, 1);
        fault("1+(1<2)&&@", 2, 1);
        fault("1+(1<2)||@", 2, 1);
        fault("1+(1<2)?@", 2, 1);
        fault("1<(1<2)<3", 2, 1);
        fault("1&&2<3<4", 2, 1);
        fault("1&&1<2||@", 2, 1);
        fault("1||1<2?@", 2, 1);
    }

    /** Which tokens can come behind a text that is not whole yet, or may go on. */
    private static void comes(String ahead, String those) {
        for (String token : TOKENS) {
            int answer = Checks.take(five(), ahead + " " + token + " @");
            boolean can = those.contains(" " + token + " ");
            checks.due(token + " can't come behind " + ahead, answer == 1 + 8 * (ahead.length() + 1), !can);
        }
    }

    private static void cannotCome() {
        String[] open = {"", "1+", "1-", "1*", "1/", "1%", "1<", "1==", "1<2&&", "1<2||", "-", "!", "(", "min(", "max(1,", "abs(", "1<2?", "1<2?3:"};
        for (String ahead : open) comes(ahead, FIRSTS);
        for (String ahead : new String[] {"min", "max", "abs", "1+abs", "(min"}) comes(ahead, " ( ");
        for (String ahead : new String[] {"1", "v0", "1+2", "-1", "(1)", "abs(1)", "min(1,2)", "(1<2)", "1<2?3:4"}) comes(ahead, SIDES);
        for (String ahead : new String[] {"(1", "((1)", "abs(1", "max(1,2", "(1<2?3:4"}) comes(ahead, SIDES + ") ");
        for (String ahead : new String[] {"min(1", "max(1", "min((1)", "min(1<2?3:4"}) comes(ahead, SIDES + ", ");
        for (String ahead : new String[] {"1<2?3", "1<2?(3)", "(1<2?3", "1<2?1<2?3:4"}) comes(ahead, SIDES + ": ");
        for (String ahead : new String[] {"1<2", "1==2", "1<2&&3<4", "1<2||3>=4", "1<2?1<2:3!=4"}) comes(ahead, SUMS);
        comes("(1<2", SUMS + ") ");
        comes("1<2?3<4", SUMS + ": ");
    }

    private static void noSuchToken() {
        for (String none : new String[] {"@", "v", "=", "&", "|", "mi", "2000000001", "00000000000", "v5", "v99", "v05"}) {
            fault(none, 1, 0);
            fault("1+" + none, 1, 2);
            fault("(" + none, 1, 1);
            fault("-" + none, 1, 1);
            fault("min(1, " + none, 1, 7);
            fault("1<2?" + none, 1, 4);
            fault("1 " + none, 1, 2);
            fault("min " + none, 1, 4);
            fault("(1 " + none, 1, 3);
        }
    }

    private static void theEnd() {
        fault("", 1, 0);
        fault(" ", 1, 1);
        fault(" ".repeat(400), 1, 400);
        String[] texts = {"1+", "1<", "1<2&&", "-", "!", "(", "(1", "min", "min(", "min(1", "min(1,", "min(1,2", "abs(1", "1<2?", "1<2?3", "1<2?3:"};
        for (String text : texts) {
            fault(text, 1, text.length());
            fault(text + "  ", 1, text.length() + 2);
        }
        fault("(".repeat(30) + "1" + " ".repeat(369), 1, 400);
    }

    private static void wrongKinds() {
        for (String one : NUMBER_OPERATORS) {
            fault("(1<2)" + one + "3", 2, 5);
            fault("3" + one + "(1<2)", 2, 1);
            fault("(1<2)" + one + "(1<2)", 2, 5);
            fault("1+2 " + one + " (1<2)", 2, 4);
        }
        for (String one : new String[] {"min", "max"}) {
            fault(one + "(1<2,3)", 2, 0);
            fault(one + "(3,1<2)", 2, 0);
            fault(one + "(1<2,1<2)", 2, 0);
            fault("1+" + one + "(3,1<2)", 2, 2);
        }
        fault("abs(1<2)", 2, 0);
        fault("1+abs(1<2)", 2, 2);
        fault("-(1<2)", 2, 0);
        fault("1--(1<2)", 2, 2);
        fault("!1", 2, 0);
        fault("1<2?3:4<5", 2, 3);
    }

    private static void byZero() {
        for (String one : new String[] {"/", "%"}) {
            for (int low = -2; low <= 2; low++) {
                for (int high = low; high <= 2; high++) {
                    RangeReckoner x = new RangeReckoner();
                    x.variable(low, high);
                    boolean mayBeZero = low <= 0 && high >= 0;
                    checks.due("7" + one + "v0 with v0 " + low + " .. " + high, Checks.take(x, "7" + one + "v0"), mayBeZero ? 3 + 8 : 0);
                }
            }
            fault("1" + one + "0", 3, 1);
            fault("0" + one + "0", 3, 1);
            fault("1" + one + "-0", 3, 1);
            fault("1 " + one + " v2", 3, 2);
            fault("1" + one + "(v4-3)", 3, 1);
            fault("1" + one + "(v3+3)", 3, 1);
            fault("1" + one + "(1-1)", 3, 1);
            fault("1<2?3:1" + one + "0", 3, 7);
            taken("1" + one + "(v4-2)");
            taken("1" + one + "(v3+2)");
            taken("1" + one + "1");
            taken("0" + one + "-1");
        }
    }

    private static void beyond() {
        range("1999999999+1", GREATEST, GREATEST);
        range("-1999999999-1", LEAST, LEAST);
        range("v2+0", LEAST, GREATEST);
        range("1000000000*2", GREATEST, GREATEST);
        range("1000000000*-2", LEAST, LEAST);
        fault("2000000000+1", 4, 10);
        fault("1+2000000000", 4, 1);
        fault("-2000000000-1", 4, 11);
        fault("-2000000000+-1", 4, 11);
        fault("2000000000--1", 4, 10);
        fault("v2+1", 4, 2);
        fault("v2-1", 4, 2);
        fault("1-v2-1", 4, 1);
        fault("v2+v2", 4, 2);
        fault("v2-v2", 4, 2);
        fault("v2*2", 4, 2);
        fault("v2*-2", 4, 2);
        fault("v2*v2", 4, 2);
        fault("2000000000*2000000000", 4, 10);
        fault("2000000000*-2000000000", 4, 10);
        fault("44722*44722", 4, 5);
        fault("-44722*44722", 4, 6);
        taken("44721*44721");
        taken("-44721*44721");
        // Products that come back into the range where an int wraps round.
        fault("65536*65536", 4, 5);
        fault("1431655765*3", 4, 10);
        fault("2*2000000000", 4, 1);
        fault("1<2?2000000000+1:1", 4, 14);
    }

    private static void leastFault() {
        fault("(1<2)/0", 2, 5);
        fault("(1<2)%0", 2, 5);
        fault("1/(1<2)", 2, 1);
        fault("1%(1>2)", 2, 1);
        fault("(1<2)+v2", 2, 5);
        fault("v2-(1<2)", 2, 2);
        fault("v2 *(1<2)", 2, 3);
        fault("v2/0", 3, 2);
        fault("v2/v1", 3, 2);
        fault(" v2 % v2", 3, 4);
        fault("abs(v0)+ v2", 4, 7);
        fault("min(1,2)-(1<2)", 2, 8);
    }

    private static void limits() {
        checks.sentence("5 the 33rd of ( ? - ! in front, min, max, abs within one another, at it", TermSentenceTests::thirtyThird);
        checks.sentence("(each to its end", TermSentenceTests::endsOfNested);
        checks.sentence("a ? to its whole TERM's", TermSentenceTests::endOfChoice);
        checks.sentence("the ( of min, max, abs is theirs and counts no more)", TermSentenceTests::bracketOfFunction);
        checks.sentence("6 the 101st PART, at its token.", TermSentenceTests::hundredAndFirst);
    }

    private static void thirtyThird() {
        String[] openings = {"(", "-", "abs(", "min(1,", "min(", "max(1,", "max("};
        String[] closings = {")", "", ")", ")", ",1)", ")", ",1)"};
        for (int k = 0; k < openings.length; k++) {
            taken(openings[k].repeat(32) + "1" + closings[k].repeat(32));
            fault(openings[k].repeat(33) + "1" + closings[k].repeat(33), 5, 32 * openings[k].length());
        }
        taken("1+(".repeat(32) + "1" + ")".repeat(32));
        fault("1+(".repeat(33), 5, 98);
        taken("2*" + "-".repeat(32) + "1");
        fault("2*" + "-".repeat(33) + "1", 5, 34);
        taken("!".repeat(31) + "(1<2)");
        fault("!".repeat(33), 5, 32);
        fault("1?".repeat(33), 5, 65);
        fault("1?1:".repeat(32) + "1", 2, 125);
        String all = "((((-!min(max(1,abs((1<2?3:-(!(";
        checks.due("15 of all kinds", Checks.take(five(), all), 1 + 8 * all.length());
        String[] last = {"(", "-", "!", "min", "max", "abs", "min(1,2)"};
        for (String one : last) {
            fault("(".repeat(32) + one, 5, 32);
            fault("-".repeat(32) + one, 5, 32);
            fault("abs(".repeat(32) + " " + one, 5, 129);
            fault("1?".repeat(32) + one, 5, 64);
            fault("1?1:".repeat(32) + one, 5, 128);
        }
        fault("(".repeat(32) + "1?", 5, 33);
        fault("1?".repeat(32) + "1?", 5, 65);
        fault("1?1:".repeat(32) + "1?", 5, 129);
        fault("(".repeat(32) + "1(", 1, 33);
        fault("(".repeat(32) + ")", 1, 32);
    }

    private static void endsOfNested() {
        taken("(".repeat(31) + "(1)+(1)+-1+-1+abs(1)+min(1,2)+max(1,2)" + ")".repeat(31));
        taken("(".repeat(30) + "!(1<2)&&!(1<2)||!(1<2)" + ")".repeat(30));
        taken("-(1)-(1)".repeat(12));
        taken("(1)" + "+(1)".repeat(40));
        taken("-1" + "*-1".repeat(32));
        fault("(".repeat(31) + "(1)+((1))", 5, 36);
        fault("(".repeat(31) + "-1+--1", 5, 35);
        fault("(".repeat(31) + "abs(1)+abs(abs(1))", 5, 42);
        fault("(".repeat(31) + "min(1,2)+min(1,(1))", 5, 46);
        fault("(".repeat(31) + "min((1),2)", 5, 35);
        taken("(".repeat(31) + "-1-1--1" + ")".repeat(31));
    }

    private static void endOfChoice() {
        fault("(".repeat(31) + "1<2?(", 5, 35);
        fault("(".repeat(31) + "1<2?1:(", 5, 37);
        fault("(".repeat(31) + "1<2?1:1+(", 5, 39);
        fault("(".repeat(31) + "1<2?1:1<2?", 5, 40);
        fault("(".repeat(31) + "1<2?1<2?", 5, 38);
        fault("(".repeat(31) + "1<2?1:1<1&&(", 5, 42);
        taken("(".repeat(30) + "(1<2?3:4)+(1<2?3:4)+((1))" + ")".repeat(30));
        taken("(".repeat(31) + "1<2?3:4" + ")".repeat(31));
        taken("(".repeat(31) + "min(1,2)<2?3:4" + ")".repeat(31));
        taken("(".repeat(31) + "(1)<(2)?3:4" + ")".repeat(31));
        taken("(1<2?1:2)" + "+(1<2?1:2)".repeat(13));
        taken("min(1<2?1:2,1<2?1:2)" + "+min(1<2?1:2,3)".repeat(8));
    }

    private static void bracketOfFunction() {
        for (String one : new String[] {"min(1,", "max(1,", "abs("}) {
            taken(one.repeat(32) + "1" + ")".repeat(32));
            taken(one.repeat(31) + "(1)" + ")".repeat(31));
            fault(one.repeat(32) + "(1)", 5, 32 * one.length());
            taken("(".repeat(31) + one + "1)" + ")".repeat(31));
            fault("(".repeat(31) + one + "(1))", 5, 31 + one.length());
        }
    }

    private static void hundredAndFirst() {
        String hundred = "-1" + "+1".repeat(49);
        taken(hundred);
        taken("1" + "+1".repeat(49));
        fault("1" + "+1".repeat(50), 6, 99);
        fault(hundred + "+1", 6, 101);
        fault(hundred + "+v0", 6, 101);
        fault(hundred + "+ 2000000000", 6, 102);
        fault(hundred + "+-1", 6, 102);
        fault(hundred + "+abs(1)", 6, 105);
        fault("-(" + hundred + ")", 6, 0);
        fault("abs(" + hundred + ")", 6, 0);
        fault("min(1" + "+1".repeat(49) + ",1)", 6, 0);
        fault("max(1" + "+1".repeat(49) + ",1)", 6, 0);
        fault("min(" + hundred + ",1)", 6, 105);
        fault("!(1<-1" + "+1".repeat(48) + ")", 6, 0);
        fault("1==1&&1" + "+1".repeat(47) + "<1", 6, 4);
        fault("1==1||1" + "+1".repeat(47) + "<1", 6, 4);
        fault("1==1?1" + "+1".repeat(47) + ":-1", 6, 4);
        fault("1<1" + "+1".repeat(49), 6, 1);
        fault("1-1" + "*1".repeat(48) + "+-1", 6, 100);
        fault("1-1" + "*1".repeat(48) + "+1", 6, 99);
        taken("1==1?1" + "+1".repeat(47) + ":1");
        taken("((((((" + hundred + "))))))");
        fault(hundred + "+v5", 1, 101);
        fault(hundred + "@", 1, 100);
        fault(hundred + "+", 1, 101);
    }

    private static void values() {
        checks.sentence("A part's VALUE: by the variables' VALUES, TRUTH 1 or 0", TermSentenceTests::partsValues);
        checks.sentence("all parts have one, also those of && || ? that don't count", TermSentenceTests::idleParts);
        checks.sentence("(a / or % by 0 can't be)", TermSentenceTests::neverByZero);
    }

    private static void valueOver(int a, int b, String text, long due) {
        RangeReckoner x = new RangeReckoner();
        x.variable(-4, 4);
        x.variable(-4, 4);
        x.give(0, a);
        x.give(1, b);
        checks.due("take of " + text, Checks.take(x, text), 0);
        checks.due("value of " + text + " of " + a + ", " + b, x.value(x.count(1) - 1), due);
    }

    /** Each operator's value of all pairs from -4 to 4. */
    private static void partsValues() {
        String[] texts = {"-v0", "v0+v1", "v0-v1", "v0*v1", "min(v0,v1)", "max(v0,v1)", "abs(v0)", "v0<v1", "v0<=v1", "v0>v1", "v0>=v1", "v0==v1",
            "v0!=v1", "v0<v1?v0:v1"};
        for (int a = -4; a <= 4; a++) {
            for (int b = -4; b <= 4; b++) {
                long[] due = {-a, a + b, a - b, a * b, Math.min(a, b), Math.max(a, b), Math.abs(a), a < b ? 1 : 0, a <= b ? 1 : 0, a > b ? 1 : 0,
                    a >= b ? 1 : 0, a == b ? 1 : 0, a != b ? 1 : 0, Math.min(a, b)};
                for (int k = 0; k < texts.length; k++) valueOver(a, b, texts[k], due[k]);
            }
        }
        worth("-7/2", -3);
        worth("7/-2", -3);
        worth("-7%2", -1);
        worth("7%-2", 1);
        worth("-7%-2", -1);
        worth("2000000000--0", GREATEST);
        worth("-2000000000/-1", GREATEST);
        truth("!(1<2)", 0);
        truth("!(1>2)", 1);
    }

    private static void idleParts() {
        RangeReckoner x = five();
        Checks.take(x, "1>2&&v0<v4");
        x.give(0, 2);
        checks.due("behind a && that is settled", x.value(3), 2);
        checks.due("its comparison", x.value(5), 1);
        checks.due("the whole", x.value(6), 0);
        Checks.take(x, "1<2||v0>v4");
        checks.due("behind a || that is settled", x.value(4), 3);
        checks.due("its comparison", x.value(5), 0);
        checks.due("the whole", x.value(6), 1);
        Checks.take(x, "v0<5?v0*10:v0*100");
        checks.due("the chosen", x.value(5), 20);
        checks.due("the other", x.value(8), 200);
        checks.due("the whole", x.value(9), 20);
        x.give(0, 5);
        checks.due("the other", x.value(5), 50);
        checks.due("the chosen", x.value(8), 500);
        checks.due("the whole", x.value(9), 500);
    }

    private static void neverByZero() {
        RangeReckoner x = new RangeReckoner();
        x.variable(1, 3);
        x.variable(-3, -1);
        x.variable(-5, 5);
        Checks.take(x, "v2/v0+v2%v1+v2%v0+v2/v1");
        for (int a = 1; a <= 3; a++) {
            for (int b = -5; b <= 5; b++) {
                x.give(0, a);
                x.give(1, -a);
                x.give(2, b);
                checks.due("value", x.value(x.count(1) - 1), b / a + b % -a + b % a + b / -a);
            }
        }
        // Also where the divisor would not count.
        fault("v0==0?1:1/v0", 3, 9);
        fault("v0!=0&&1/v0<1", 3, 8);
        fault("v0==0||1%v0<1", 3, 8);
    }
}
