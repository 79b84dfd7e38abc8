/** Each promise of the document by hand: ordinary inputs, the edges it names, wrong inputs. */
public final class PromiseTests extends Texts {
    public static void main(String[] args) {
        aNewObject();
        variable();
        give();
        feed();
        take();
        tokens();
        grammar();
        ranges();
        faultsOfKindZeroAndRange();
        orderOfFaults();
        nesting();
        manyParts();
        parts();
        values();
        width();
        count();
        checks.end();
    }

    private static void aNewObject() {
        checks.due("NONE", NONE, -1);
        RangeReckoner x = new RangeReckoner();
        for (int what = 0; what <= 3; what++) checks.due("count(" + what + ") of a new one", x.count(what), 0);
        checks.due("width of a new one", x.width(), NONE);
        for (int what = 0; what <= 3; what++) checks.due("part of a new one", x.part(0, what), NONE);
        valueThrows(x, 0);
        checks.due("give to a new one", x.give(0, 0), false);
        checks.due("take of a new one", x.take(), 1);
        RangeReckoner y = new RangeReckoner();
        x.variable(1, 2);
        Checks.feed(x, "v0");
        checks.due("objects share no variables", y.count(0), 0);
        checks.due("objects share no tape", y.count(2), 0);
    }

    private static void variable() {
        RangeReckoner x = new RangeReckoner();
        checks.due("variable(5, 3)", x.variable(5, 3), NONE);
        checks.due("below", x.variable(-GREATEST - 1, 0), NONE);
        checks.due("above", x.variable(0, GREATEST + 1), NONE);
        checks.due("both beyond", x.variable(Integer.MIN_VALUE, Integer.MAX_VALUE), NONE);
        checks.due("both above", x.variable(GREATEST + 1, GREATEST + 2), NONE);
        checks.due("both below", x.variable(-GREATEST - 2, -GREATEST - 1), NONE);
        checks.due("refused ones don't count", x.count(0), 0);
        checks.due("all that may be", x.variable(-GREATEST, GREATEST), 0);
        checks.due("above 0", x.variable(4, 9), 1);
        checks.due("below 0", x.variable(-9, -4), 2);
        checks.due("one value", x.variable(7, 7), 3);
        checks.due("0 at the low end", x.variable(0, 3), 4);
        checks.due("0 at the high end", x.variable(-3, 0), 5);
        checks.due("take", Checks.take(x, "v0+v1+v2+v3+v4+v5*0"), 4 + 8 * 2);
        checks.due("take", Checks.take(x, "max(v1,max(v2,max(v3,max(v4,max(v5,v0)))))"), 0);
        long[] first = {4, -4, 7, 0, 0, 0};
        for (int i = 0; i < 6; i++) checks.due("first value " + i, x.value(i), first[i]);
        for (int i = 6; i < 20; i++) checks.due("variable " + i, x.variable(i, i), i);
        checks.due("the 21st", x.variable(0, 1), NONE);
        checks.due("twenty", x.count(0), 20);
        checks.due("v19", Checks.take(x, "v19"), 0);
        checks.due("value of v19", x.value(0), 19);
        checks.due("v20", Checks.take(x, "v20"), 1);
    }

    private static void give() {
        RangeReckoner x = five();
        Checks.take(x, "v1");
        checks.due("give(1, 20)", x.give(1, 20), true);
        checks.due("value", x.value(0), 20);
        checks.due("give(1, -20)", x.give(1, -20), true);
        checks.due("value", x.value(0), -20);
        checks.due("give(1, 21)", x.give(1, 21), false);
        checks.due("give(1, -21)", x.give(1, -21), false);
        checks.due("refused, so as before", x.value(0), -20);
        checks.due("another's value", x.give(0, 5), true);
        checks.due("as before", x.value(0), -20);
        checks.due("give(5, 0)", x.give(5, 0), false);
        checks.due("give(-1, 0)", x.give(-1, 0), false);
        checks.due("give(20, 0)", x.give(20, 0), false);
        checks.due("give(MAX, 0)", x.give(Integer.MAX_VALUE, 0), false);
        checks.due("give(MIN, 0)", x.give(Integer.MIN_VALUE, 0), false);
        checks.due("give(2, GREATEST)", x.give(2, GREATEST), true);
        checks.due("give(2, GREATEST + 1)", x.give(2, GREATEST + 1), false);
        checks.due("give(2, -GREATEST)", x.give(2, -GREATEST), true);
    }

    private static void feed() {
        RangeReckoner x = new RangeReckoner();
        checks.due("feed(0, 0)", x.feed(0, 0), 0);
        checks.due("zeros left out", x.feed(0x00310000, 0x002b0031), 3);
        checks.due("take of 1+1", x.take(), 0);
        checks.due("three parts", x.count(1), 3);
        checks.due("eight signs", x.feed(Checks.word("1234", 0), Checks.word("+678", 0)), 8);
        checks.due("order", x.take(), 0);
        checks.due("highest byte first", x.value(0), 1234);
        checks.due("b behind a", x.value(1), 678);
        checks.due("sign 31", x.feed(0x31311f31, 0), NONE);
        checks.due("sign 127", x.feed(0x31, 0x3131317f), NONE);
        checks.due("sign 128", x.feed(0x80000000, 0), NONE);
        checks.due("sign 255", x.feed(0x31, 0xff), NONE);
        checks.due("sign 1", x.feed(0x31, 1), NONE);
        checks.due("nothing came", x.count(2), 0);
        checks.due("sign 32", x.feed(32, 0), 1);
        checks.due("sign 126", x.feed(126, 0), 2);
        checks.due("feed(0, 0) tells the length", x.feed(0, 0), 2);
        checks.due("take of ' ~'", x.take(), 1 + 8);
        fullTape();
    }

    private static void fullTape() {
        RangeReckoner x = new RangeReckoner();
        for (int k = 8; k <= 392; k += 8) checks.due("feed up to " + k, x.feed(0x20202020, 0x20202020), k);
        checks.due("feed up to 399", x.feed(0x20202020, 0x00202020), 399);
        checks.due("two too many", x.feed(0, 0x3131), NONE);
        checks.due("eight too many", x.feed(0x31313131, 0x31313131), NONE);
        checks.due("as before", x.count(2), 399);
        checks.due("the 400th", x.feed(0x37, 0), 400);
        checks.due("the 401st", x.feed(0, 0x31), NONE);
        checks.due("none more", x.feed(0, 0), 400);
        checks.due("take of 400 signs", x.take(), 0);
        checks.due("place", x.part(0, 0), 399);
        checks.due("value", x.value(0), 7);
        checks.due("empty again", x.count(2), 0);
    }

    private static void take() {
        RangeReckoner x = five();
        checks.due("take of v0+1", Checks.take(x, "v0+1"), 0);
        checks.due("tape after a take", x.count(2), 0);
        checks.due("take of the empty tape", x.take(), 1);
        checks.due("the term stays", x.count(1), 3);
        Checks.feed(x, "1+2+3+(1<2)");
        checks.due("a fault", x.take(), 2 + 8 * 5);
        checks.due("tape after a fault", x.count(2), 0);
        checks.due("the term stays", x.count(1), 3);
        checks.due("its depth stays", x.count(3), 2);
        checks.due("its ranges stay", x.part(2, 3), 10);
        x.give(0, 4);
        checks.due("its values go on", x.value(2), 5);
        checks.due("another", Checks.take(x, "7"), 0);
        checks.due("it is the one at hand", x.count(1), 1);
        checks.due("it is the one at hand", x.value(0), 7);
        x.variable(0, 1);
        checks.due("a later variable", Checks.take(x, "v5"), 0);
        textsAfterFaults();
        longestText();
    }

    private static void textsAfterFaults() {
        RangeReckoner x = five();
        checks.due("100 digits left alone", Checks.take(x, "1||1&&1<1+1*(".repeat(20)), 1 + 8 * 260);
        checks.due("32 brackets left open", Checks.take(x, "(".repeat(32)), 1 + 8 * 32);
        checks.due("32 brackets again", Checks.take(x, "(".repeat(32) + "1" + ")".repeat(32)), 0);
        checks.due("many parts again", Checks.take(x, "-1" + "+1".repeat(49)), 0);
        checks.due("a fault", Checks.take(x, "1+2?"), 1 + 8 * 4);
        checks.due("another term", Checks.take(x, "7-3"), 0);
        checks.due("its value", x.value(2), 4);
        checks.due("its parts", x.count(1), 3);
    }

    private static void longestText() {
        RangeReckoner x = five();
        checks.due("400 tokens", Checks.take(x, "(((1)))+".repeat(49) + "-(((1)))"), 0);
        checks.due("their parts", x.count(1), 100);
        checks.due("their value", x.value(99), 48);
        checks.due("the last part's place", x.part(99, 0), 391);
        checks.due("400 tokens, one open", Checks.take(x, "(((1)))+".repeat(49) + "((((1)))"), 1 + 8 * 400);
    }

    private static void tokens() {
        taken(" ( v0 ) ");
        taken("min ( 1 , 2 )");
        taken("v00+v01+v4");
        worth("2000000000", 2000000000);
        worth("0000000012", 12);
        fault("2000000001", 1, 0);
        fault("9999999999", 1, 0);
        fault("00000000012", 1, 0);
        fault("1+ 18446744073709551617", 1, 3);
        fault("1" + "0".repeat(60), 1, 0);
        fault("v", 1, 0);
        fault("v 0", 1, 0);
        fault("vv0", 1, 0);
        fault("v5", 1, 0);
        fault("1+v99", 1, 2);
        fault("v001", 1, 3);
        fault("v0 1", 1, 3);
        fault("1 v9", 1, 2);
        for (String none : new String[] {"v", "v ", "vv", "@", "&", "|", "=", "m", "mi", "a", "ab", "x", "V0", ".", "~", "[", "mni", "#"}) {
            fault(none, 1, 0);
            fault("1" + none, 1, 1);
            fault("1+" + none, 1, 2);
            fault("(" + none, 1, 1);
            fault("-" + none, 1, 1);
            fault("(1)" + none, 1, 3);
            fault("min(" + none, 1, 4);
        }
        fault("1&1", 1, 1);
        fault("1|1", 1, 1);
        fault("1=1", 1, 1);
        fault("1< =1", 1, 3);
        fault("1<==1", 1, 3);
        fault("1===1", 1, 3);
        fault("1<2& &1<2", 1, 3);
        fault("1<2&&&1<2", 1, 5);
        fault("1<2|||1<2", 1, 5);
        fault("1! =2", 1, 1);
        fault("minv0", 1, 3);
        fault("min1", 1, 3);
        fault("min", 1, 3);
        fault("max 7", 1, 4);
        fault("abs-1", 1, 3);
        fault("m in(1,2)", 1, 0);
        truth("1<=1", 1);
        truth("1!=1", 0);
        truth("!(1<2)", 0);
        worth("1--1", 2);
        worth("1- - -1", 0);
    }

    private static void grammar() {
        worth("1+2*3", 7);
        worth("(1+2)*3", 9);
        worth("10-3-2", 5);
        worth("100/7/2", 7);
        worth("100/7*2", 28);
        worth("100%7*2", 4);
        worth("2*7%4", 2);
        worth("-2*3", -6);
        worth("2*-3", -6);
        worth("-(2-5)", 3);
        worth("1<2?3:4", 3);
        worth("1>2?3:1>2?5:6", 6);
        worth("1<2?1>2?3:4:5", 4);
        worth("1<2?3:4+10", 3);
        worth("1>2?3:4+10", 14);
        worth("min(3,max(1,2))", 2);
        worth("abs(3-8)", 5);
        worth("10+abs(3-8)", 15);
        worth("10*-abs(-2)", -20);
        truth("1<2||1<2&&1>2", 1);
        truth("(1<2||1<2)&&1>2", 0);
        truth("1+1<3", 1);
        truth("!(1>2)==(1<2)", 1);
        truth("1<2?1>2:1<2", 0);
        truth("1>2||1>2||1<2", 1);
        truth("1<2&&1<2&&1>2", 0);
        for (String text : new String[] {"()", "(", ")", "-", "!", "+1", "*1", "?", ":", ",", "<1", "&&", "1+", "1-", "1*", "1<", "1<2&&", "1<2?"}) {
            int at = text.startsWith("(") || text.startsWith("-") || text.startsWith("!") ? 1 : text.startsWith("1") ? text.length() : 0;
            fault(text, 1, at);
        }
        fault("1+ ", 1, 3);
        fault("   ", 1, 3);
        fault("(1", 1, 2);
        fault("(1  ", 1, 4);
        fault("1)", 1, 1);
        fault("1,2", 1, 1);
        fault("1:2", 1, 1);
        fault("(1,2)", 1, 2);
        fault("(1:2)", 1, 2);
        fault("min(1)", 1, 5);
        fault("min(1,2,3)", 1, 7);
        fault("abs(1,2)", 1, 5);
        fault("abs()", 1, 4);
        fault("max(,2)", 1, 4);
        fault("1<2?3", 1, 5);
        fault("1<2?3)", 1, 5);
        fault("1<2?3,4", 1, 5);
        fault("1<2?(3:4)", 1, 6);
        fault("1<2?3:4:5", 1, 7);
        fault("1<2<3", 1, 3);
        fault("1==2==3", 1, 4);
        fault("1<2 != (1<2)", 1, 4);
        fault("1(2)", 1, 1);
        fault("1 min(1,2)", 1, 2);
        fault("1!", 1, 1);
        fault("(1)2", 1, 3);
        taken("(1<2)==(2<3)");
        taken("((((1))))");
    }

    private static void ranges() {
        range("5", 5, 5);
        range("v1", -20, 20);
        range("-v0", -9, 0);
        range("-v3", 3, 9);
        range("v0+v1", -20, 29);
        range("v0-v1", -20, 29);
        range("v1-v0", -29, 20);
        range("v0*v1", -180, 180);
        range("v3*v4", -81, -9);
        range("v3*v3", 9, 81);
        range("v1*v1", -400, 400);
        range("v1/v4", -6, 6);
        range("v1/v3", -6, 6);
        range("v4/v3", -3, 0);
        range("v3/v4", -3, 0);
        range("v3/v3", 0, 3);
        range("-7/2", -3, -3);
        range("v2/v4", -666666666, 666666666);
        range("v1%v4", -8, 8);
        range("v1%v3", -8, 8);
        range("v0%7", 0, 6);
        range("v0%100", 0, 9);
        range("v3%100", -9, 0);
        range("v3%v4", -8, 0);
        range("v3%-100", -9, 0);
        range("v1%1", 0, 0);
        range("v4%v3", 0, 8);
        range("v2%2000000000", -1999999999, 1999999999);
        range("0%5", 0, 0);
        range("abs(v1)", 0, 20);
        range("abs(v3)", 3, 9);
        range("abs(v4)", 3, 9);
        range("abs(v0)", 0, 9);
        range("abs(-v0)", 0, 9);
        range("abs(v1-5)", 0, 25);
        range("abs(v2)", 0, GREATEST);
        range("min(v1,v0)", -20, 9);
        range("min(v0,v1)", -20, 9);
        range("max(v0,v1)", 0, 20);
        range("v0+abs(v3)", 3, 18);
        range("v0+-v3", 3, 18);
        range("max(v1,v0)", 0, 20);
        range("min(v3,v4)", -9, -3);
        range("max(v3,v4)", 3, 9);
        range("v0<1?v3:v4", -9, 9);
        range("v0<1?v4:v3", -9, 9);
        range("v0<1?v1:v0", -20, 20);
        range("1<2?1:100", 1, 100);
        range("v2+0", -GREATEST, GREATEST);
        range("v2*-1", -GREATEST, GREATEST);
        range("1000000000+1000000000", GREATEST, GREATEST);
        range("-2000000000", -GREATEST, -GREATEST);
        truth("v0<1", 1);
        truth("!(v0<1)", 0);
        truth("v0<1?v1<0:v1>=0", 0);
    }

    private static void faultsOfKindZeroAndRange() {
        for (String operator : new String[] {"+", "-", "*", "/", "%", "<", "<=", ">", ">="}) {
            fault("(1<2)" + operator + "3", 2, 5);
            fault("3" + operator + "(1<2)", 2, 1);
            fault("(1<2)" + operator + "(1<2)", 2, 5);
        }
        for (String operator : new String[] {"==", "!="}) {
            fault("(1<2)" + operator + "3", 2, 5);
            fault("3" + operator + "(1<2)", 2, 1);
            taken("(1<2)" + operator + "(3<4)");
        }
        for (String operator : new String[] {"&&", "||"}) {
            fault("1<2" + operator + "3", 2, 3);
            fault("3" + operator + "1<2", 2, 1);
            fault("3" + operator + "3", 2, 1);
        }
        for (String function : new String[] {"min", "max"}) {
            fault(function + "(1<2,3)", 2, 0);
            fault(function + "(3,1<2)", 2, 0);
            fault(function + "(1<2,1<2)", 2, 0);
        }
        fault("1+abs(1<2)", 2, 2);
        fault("-(1<2)", 2, 0);
        fault("!1", 2, 0);
        fault("!v0", 2, 0);
        fault("v0?1:2", 2, 2);
        fault("v0?1<2:1<2", 2, 2);
        fault("1<2?1:1<2", 2, 3);
        fault("1<2?1<2:1", 2, 3);
        fault("1/0", 3, 1);
        fault("1%0", 3, 1);
        fault("1/v0", 3, 1);
        fault("1 %v1", 3, 2);
        fault("1/-v0", 3, 1);
        fault("1/(v4-3)", 3, 1);
        fault("1/(v3+3)", 3, 1);
        taken("1/(v4-2)");
        taken("1%(v3+2)");
        fault("(1<2)/0", 2, 5);
        fault("v2/0", 3, 2);
        fault("v2+1", 4, 2);
        fault("-2000000000-1", 4, 11);
        fault("v2-1", 4, 2);
        fault("v2*2", 4, 2);
        fault("v2*v2", 4, 2);
        fault("2000000000*-2", 4, 10);
        fault("44722*44722", 4, 5);
        taken("44721*44721");
        fault("v2--1", 4, 2);
        fault("v0 + v2", 4, 3);
    }

    private static void orderOfFaults() {
        // What an operator takes is asked ahead of the token behind its last part.
        fault("1+(1<2)@", 2, 1);
        fault("1*(1<2)@", 2, 1);
        fault("-(1<2)@", 2, 0);
        fault("1<(1<2)<3", 2, 1);
        fault("1/0)", 3, 1);
        fault("v2+1 1", 4, 2);
        fault("1&&2<3<4", 2, 1);
        fault("1||2<3@", 2, 1);
        fault("1?2:3@", 2, 1);
        fault("1<2?3:4<5@", 2, 3);
        fault("min(1,1<2", 2, 0);
        fault("min(1,1<2@", 2, 0);
        fault("abs(1<2", 2, 0);
        fault("abs(1<2,3)", 2, 0);
        fault("max(1<2,3,4)", 2, 0);
        // A bracket's end belongs to what stands in it.
        fault("1+(1<2@", 1, 6);
        fault("1/(0", 1, 4);
        // An operator whose last part is not read yet is not asked.
        fault("1?@:2", 1, 2);
        fault("1?2:@", 1, 4);
        fault("1&&@", 1, 3);
        fault("(1<2)+3*@", 1, 8);
        fault("(1<2)+3*4", 2, 5);
        fault("min(1<2,@", 1, 8);
        fault("1?1/0:2", 3, 3);
        fault("(1<2)+1/0", 3, 7);
        fault("(1<2)+(v2+1)", 4, 9);
        fault("1/0*@", 3, 1);
        fault("1+(1<2)+@", 2, 1);
        fault("1&&1<2||@", 2, 1);
        fault("1||1<2?@", 2, 1);
        fault("1<2?3:1?4:5", 2, 7);
        fault("1?2:1?4:5", 2, 5);
    }

    private static void nested(String opening, String closing) {
        taken(opening.repeat(32) + "1" + closing.repeat(32));
        fault(opening.repeat(33) + "1" + closing.repeat(33), 5, 32 * opening.length());
    }

    private static void nesting() {
        nested("(", ")");
        nested("-", "");
        nested("abs(", ")");
        nested("min(1,", ")");
        nested("max(", ",1)");
        taken("!".repeat(31) + "(1<2)");
        fault("!".repeat(32) + "(1<2)", 5, 32);
        fault("!".repeat(33) + "(1<2)", 5, 32);
        fault("-".repeat(33), 5, 32);
        fault("(".repeat(33), 5, 32);
        fault("(".repeat(32), 1, 32);
        fault("(".repeat(32) + "min", 5, 32);
        fault("(".repeat(32) + "abs(1)", 5, 32);
        fault("(".repeat(32) + "-1", 5, 32);
        fault("(".repeat(32) + "!1", 5, 32);
        fault("(".repeat(32) + "1?", 5, 33);
        fault("(".repeat(32) + "1/0?", 3, 33);
        fault("(".repeat(31) + "1?(", 5, 33);
        fault("(".repeat(31) + "1?1:(", 5, 35);
        fault("(".repeat(31) + "abs((", 5, 35);
        fault("1?".repeat(33), 5, 65);
        fault("1?1:".repeat(33), 5, 129);
        fault("1?1:".repeat(32) + "1", 2, 125);
        // What has ended counts no more.
        taken("(".repeat(31) + "-1+-1+(2)+abs(1)+min(1,2)" + ")".repeat(31));
        taken("(".repeat(31) + "(1<2)==(1<2)" + ")".repeat(31));
        taken("(".repeat(30) + "(1<2?3:4)+(1<2?3:4)" + ")".repeat(30));
        taken("(".repeat(31) + "1<2?3:4" + ")".repeat(31));
        taken("-(1)-(1)".repeat(12));
        taken("(1<2?1:2)" + "+(1<2?1:2)".repeat(13));
    }

    private static void manyParts() {
        // 1+1+..: the part after the 50th sum's digits is its +.
        checks.due("99 parts", partsOf("1" + "+1".repeat(49)), 99);
        checks.due("100 parts", partsOf("-1" + "+1".repeat(49)), 100);
        fault("1" + "+1".repeat(50), 6, 99);
        fault("1" + "+1".repeat(50) + "@", 6, 99);
        fault("-1" + "+1".repeat(49) + "+1", 6, 101);
        fault("-1" + "+1".repeat(49) + "@", 1, 100);
        fault("-1" + "+1".repeat(49) + "+v9", 1, 101);
        fault("-1" + "+1".repeat(49) + "+", 1, 101);
        fault("-1" + "+1".repeat(49) + "+-1", 6, 102);
        fault("min(-1" + "+1".repeat(49) + ",1)", 6, 105);
        fault("abs(-1" + "+1".repeat(49), 6, 0);
        fault("-(-1" + "+1".repeat(49) + ")", 6, 0);
        fault("1" + "+1".repeat(49) + "+(1<2)", 6, 103);
        // Of one operator's faults the least is told.
        fault("1" + "+1".repeat(49) + "/0", 3, 99);
        fault("-1" + "+1".repeat(49) + "/1", 6, 100);
        fault("-1" + "+1".repeat(49) + "/0", 3, 100);
        // Each of the choices waits for the last of them.
        fault("1<2?3:".repeat(25) + "4", 6, 150);
        fault("1<2?3:".repeat(24) + "4", 6, 123);
        // 101 digits, none of their operators read to its end.
        fault("1||1&&1<1+1*(".repeat(20), 1, 260);
        fault("1||1&&1<1+1*(".repeat(20) + "1", 6, 260);
        fault("1||1&&1<1+1*(".repeat(20) + "(1", 6, 261);
    }

    private static int partsOf(String text) {
        RangeReckoner x = five();
        checks.due("take of " + text, Checks.take(x, text), 0);
        return x.count(1);
    }

    private static void parts() {
        places("7", 0);
        places(" ( 7 ) ", 3);
        places("1+2*3", 0, 2, 4, 3, 1);
        places("1*2+3", 0, 2, 1, 4, 3);
        places("1-2-3", 0, 2, 1, 4, 3);
        places("-(1+2)", 2, 4, 3, 0);
        places("min(1,2)+3", 4, 6, 0, 9, 8);
        places("abs( v0 )", 5, 0);
        places("1<2?3:4", 0, 2, 1, 4, 6, 3);
        places("1<2?3:1<2?5:6", 0, 2, 1, 4, 6, 8, 7, 10, 12, 9, 3);
        places("1<=2&&1!=2||1==2", 0, 3, 1, 6, 9, 7, 4, 12, 15, 13, 10);
        places("1<2||1<2||1<2", 0, 2, 1, 5, 7, 6, 3, 10, 12, 11, 8);
        places("!!(1<2)", 3, 5, 4, 1, 0);
        RangeReckoner x = five();
        Checks.take(x, "v3<v4&&v1-1>-1");
        int[][] due = {{0, 0, -9, -3}, {3, 0, 3, 9}, {2, 1, 0, 1}, {7, 0, -20, 20}, {10, 0, 1, 1}, {9, 0, -21, 19},
            {13, 0, 1, 1}, {12, 0, -1, -1}, {11, 1, 0, 1}, {5, 1, 0, 1}};
        checks.due("parts", x.count(1), due.length);
        for (int i = 0; i < due.length; i++) {
            for (int what = 0; what < 4; what++) checks.due("part(" + i + ", " + what + ")", x.part(i, what), due[i][what]);
        }
        for (int what : new int[] {-1, 4, Integer.MAX_VALUE, Integer.MIN_VALUE}) checks.due("part(0, " + what + ")", x.part(0, what), NONE);
        for (int i : new int[] {-1, due.length, 99, 100, Integer.MAX_VALUE, Integer.MIN_VALUE}) {
            for (int what = 0; what < 4; what++) checks.due("part(" + i + ", " + what + ")", x.part(i, what), NONE);
        }
        Checks.take(x, "1");
        checks.due("a former term's part", x.part(1, 0), NONE);
    }

    private static void values() {
        worth("-7/2", -3);
        worth("7/-2", -3);
        worth("-7%2", -1);
        worth("7%-2", 1);
        worth("-7%-2", -1);
        worth("min(2,-3)", -3);
        worth("max(2,-3)", 2);
        worth("abs(-3)", 3);
        for (int a = 0; a < 2; a++) {
            for (int b = 0; b < 2; b++) {
                truth("1==" + a + "&&1==" + b, a & b);
                truth("1==" + a + "||1==" + b, a | b);
                truth("1==" + a + "&&!(1==" + b + ")", a & (1 - b));
                truth("(1==" + a + ")==(1==" + b + ")", a == b ? 1 : 0);
            }
        }
        truth("1<1", 0);
        truth("1>1", 0);
        truth("1>=1", 1);
        truth("2<=1", 0);
        truth("1==2", 0);
        truth("(1<2)==(2<1)", 0);
        truth("(1<2)!=(2<1)", 1);
        RangeReckoner x = five();
        Checks.take(x, "v0>5&&v0/v4+0<1");
        x.give(0, 4);
        checks.due("ahead of &&", x.value(2), 0);
        checks.due("a part that does not count", x.value(5), 1);
        checks.due("the whole", x.value(x.count(1) - 1), 0);
        Checks.take(x, "v0<5?v0*10:v0*100");
        checks.due("the chosen", x.value(5), 40);
        checks.due("the other", x.value(8), 400);
        checks.due("the choice", x.value(9), 40);
        x.give(0, 5);
        checks.due("the choice now", x.value(9), 500);
        checks.due("value of v0", x.value(0), 5);
        for (int i : new int[] {-1, 10, 99, 100, Integer.MAX_VALUE, Integer.MIN_VALUE}) valueThrows(x, i);
        checks.due("nothing changed", x.value(9), 500);
        Checks.take(x, "v0");
        valueThrows(x, 1);
        Checks.take(x, "v2*-1");
        x.give(2, GREATEST);
        checks.due("the least value", x.value(3), -GREATEST);
    }

    private static void width() {
        RangeReckoner x = five();
        checks.due("without a term", x.width(), NONE);
        Checks.take(x, "1+");
        checks.due("still without", x.width(), NONE);
        Checks.take(x, "v2");
        checks.due("the widest", x.width(), 4000000001L);
        Checks.take(x, "v2<1");
        checks.due("a truth", x.width(), 2);
        Checks.take(x, "5");
        checks.due("one value", x.width(), 1);
        Checks.take(x, "-v0");
        checks.due("below 0", x.width(), 10);
        Checks.take(x, "-v0/");
        checks.due("a fault changes it not", x.width(), 10);
    }

    private static void count() {
        RangeReckoner x = five();
        checks.due("variables", x.count(0), 5);
        for (int what : new int[] {-1, 4, 5, Integer.MAX_VALUE, Integer.MIN_VALUE}) checks.due("count(" + what + ")", x.count(what), NONE);
        Checks.feed(x, "1 + 2");
        checks.due("signs, spaces too", x.count(2), 5);
        checks.due("no parts yet", x.count(1), 0);
        checks.due("no depth yet", x.count(3), 0);
        x.take();
        checks.due("parts", x.count(1), 3);
        depth("7", 1);
        depth("((v0))", 1);
        depth("-v0", 2);
        depth("1+2+3+4", 4);
        depth("(1+2)+(3+4)", 3);
        depth("1+(2+(3+4))", 4);
        depth("1<2?3:4", 3);
        depth("1+2+3<4?5:6", 5);
        depth("1<2?3+4+5:6", 4);
        depth("1<2?3:4+5+6", 4);
        depth("min(1,2)", 2);
        depth("max(1,-2)", 3);
        depth("abs(1)", 2);
        depth("-".repeat(32) + "1", 33);
    }
}
