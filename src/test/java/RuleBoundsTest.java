import java.util.ArrayList;
import java.util.List;
import java.util.regex.Pattern;

/** The boundary cases of promises 6 and 38, and of terms 1 as far as THE RULE is told there. */
final class RuleBoundsTest {
    private static final Check check = new Check();
    private static final String FORTY = "1+1+1+1+1+1+1+1+1+1+1+1+1+1+1+1+1+1+1+12";
    private static final Pattern MINUS = Pattern.compile("(^|[-+*/<>=(])-x");
    private static final Pattern TWO = Pattern.compile("x[-+*/]x");
    private static final Pattern COMPARED = Pattern.compile("(^|\\()x[<>=]x(\\)|$)");
    private static final Pattern ENCLOSED = Pattern.compile("\\(x\\)");

    public static void main(String[] args) {
        emptyText();
        oneBehindAnother();
        signCantStand();
        everyShortText();
        endsTooEarly();
        moreThan40();
        fourInOneAnother();
        oneToThreeDigits();
        notOneBehindTheOther();
        anyManyMinuses();
        byZero();
        cutToZero();
        fromTheLeft();
        putToValue();
        asInts();
        letters();
        lawFault();
        lawOfAnEmptyText();
        lawChangesNothing();
        check.end();
    }

    /** Promise 6: "an empty one: none", and "at first none: w*k/5". */
    private static void emptyText() {
        GiftsOfCourts x = Check.realm("354321;512345", "113,00");
        check.due("at first", x.value(0, 1), 13 * 2 / 5);
        Check.rule(x, "7");
        check.due("another one", x.value(0, 1), 7);
        check.due("none", Check.rule(x, ""), 0);
        check.due("as at first", x.value(0, 1), 13 * 2 / 5);
        check.due("of a new object", new GiftsOfCourts().rule(), 0);
        check.due("rules are not to be undone", x.count(10), 0);
    }

    /** Promise 6: "THE TEXT is THE RULE": nothing of those ahead of it is left. */
    private static void oneBehindAnother() {
        GiftsOfCourts x = Check.alike(1, "17,00");
        for (int i = 0; i < 6; i++) {
            Check.rule(x, FORTY);
            check.due("a long one", x.value(0, 0), 31);
            Check.law(x, "-" + FORTY.substring(0, 39));
            Check.rule(x, "-" + FORTY.substring(0, 37) + "-w");
            check.due("the longest", x.value(0, 0), 10);
            Check.rule(x, "w");
            check.due("a short one", x.value(0, 0), 7);
            Check.rule(x, "w+");
            check.due("one that can't be", x.value(0, 0), 7);
            Check.rule(x, "");
            check.due("none", x.value(0, 0), 7);
        }
    }

    /** Promise 6: "-1 - p: the sign at p can't stand there". */
    private static void signCantStand() {
        for (char sign = 0; sign < 256; sign++) {
            boolean begins = "-(0123456789wkrshed".indexOf(sign) >= 0;
            boolean goesOn = "<>=+-*/".indexOf(sign) >= 0;
            fault(sign + "", begins && "-(".indexOf(sign) < 0 ? -1 : begins ? 1 : 0);
            fault("w" + sign + "w", goesOn ? -1 : 1);
            fault("1" + sign + "w", goesOn ? -1 : sign >= '0' && sign <= '9' ? 2 : 1);
            fault("w+" + sign, begins && "-(".indexOf(sign) < 0 ? -1 : begins ? 3 : 2);
            fault("(w" + sign + "w)", goesOn ? -1 : sign == ')' ? 3 : 2);
            fault("(w)" + sign + "w", goesOn ? -1 : 3);
        }
    }

    /**
     * Likewise, of every text of up to five signs: the signs ahead of p could go on to a rule, and with the one at p they
     * can't. What is a rule is found by other means than by reading it from its first sign on.
     */
    private static void everyShortText() {
        String signs = "w1-*<()x";
        List<String> viable = new ArrayList<>(List.of(""));
        for (int length = 1; length <= 5; length++) {
            List<String> longer = new ArrayList<>();
            for (String begun : viable) {
                for (int i = 0; i < signs.length(); i++) {
                    String text = begun + signs.charAt(i);
                    boolean goesOn = canGoOn(text);
                    fault(text, isRule(text) ? -1 : goesOn ? length : length - 1);
                    fault(text + "?", goesOn ? length : length - 1);
                    if (goesOn) {
                        longer.add(text);
                    }
                }
            }
            viable = longer;
        }
    }

    private static boolean canGoOn(String text) {
        for (int open = 0; open <= 5; open++) {
            if (isRule(text + ")".repeat(open)) || isRule(text + "w" + ")".repeat(open))) {
                return true;
            }
        }
        return false;
    }

    /** What stands for a thing becomes x, till x alone is left. */
    private static boolean isRule(String text) {
        String left = text.replaceAll("x", "?").replaceAll("(?<!\\d)\\d{1,3}(?!\\d)|[wkrshed]", "x");
        String before = "";
        while (!left.equals(before)) {
            before = left;
            left = MINUS.matcher(left).replaceFirst("$1x");
            left = left.equals(before) ? TWO.matcher(left).replaceFirst("x") : left;
            left = left.equals(before) ? COMPARED.matcher(left).replaceFirst("$1x$2") : left;
            left = left.equals(before) ? ENCLOSED.matcher(left).replaceFirst("x") : left;
        }
        return left.equals("x") && deepest(text) <= 4;
    }

    private static int deepest(String text) {
        int open = 0;
        int most = 0;
        for (char sign : text.toCharArray()) {
            open += sign == '(' ? 1 : sign == ')' ? -1 : 0;
            most = Math.max(most, open);
        }
        return most;
    }

    /** Promise 6: "its end, if it ends too early". */
    private static void endsTooEarly() {
        String whole = "(w-(-k*(r+2))>12)/h";
        boolean[] early = new boolean[whole.length() + 1];
        for (int p : new int[] {1, 2, 3, 4, 5, 6, 7, 8, 9, 10, 11, 12, 13, 14, 15, 16, 18}) {
            early[p] = true;
        }
        for (int length = 1; length <= whole.length(); length++) {
            fault(whole.substring(0, length), early[length] ? length : -1);
        }
        for (String text : new String[] {"-", "(", "w+", "w-", "w*", "w/", "w<", "w>", "w=", "(w", "((w)", "w*-", "w--"}) {
            fault(text, text.length());
        }
    }

    /** Terms 1: "a text of at most 40 signs"; promise 6: "40, if it has more and the first 40 could go on or end". */
    private static void moreThan40() {
        check.due("forty signs", FORTY.length(), 40);
        fault(FORTY, -1);
        for (char sign : new char[] {'3', '+', '*', ')', 'w', 'x', 0, 255}) {
            fault(FORTY + sign, 40);
        }
        fault(FORTY + "+1", 40);
        fault(FORTY + "+1".repeat(20), 40);
        fault(FORTY.substring(0, 39), -1);
        // The first 40 could go on, but not end.
        fault(FORTY.substring(0, 39) + "+1", 40);
        fault(FORTY.substring(0, 39) + "+", 40);
        fault("(" + FORTY.substring(0, 39) + ")", 40);
        fault("(" + FORTY.substring(0, 38) + "-)", 40);
        fault("-".repeat(40) + "w", 40);
        fault("-".repeat(39) + "w", -1);
        fault("-".repeat(80), 40);
        // They could neither go on nor end: the sign by which they can't is told.
        fault(FORTY.substring(0, 39) + ")+1", 39);
        fault(FORTY.substring(0, 38) + "-*1", 39);
        fault("(((((" + FORTY, 4);
        fault("x" + FORTY, 0);
        fault("1".repeat(80), 3);
    }

    /** Terms 1: "an EXPRESSION in ( ) (at most 4 in one another)". */
    private static void fourInOneAnother() {
        for (int deep = 1; deep <= 12; deep++) {
            fault("(".repeat(deep) + "w" + ")".repeat(deep), deep <= 4 ? -1 : 4);
        }
        fault("((((w))))+((((k))))", -1);
        fault("((((w))))+(((((k)))))", 14);
        fault("(((w)+(k)+((r))))", -1);
        fault("(((w)+(k)+(((r)))))", 12);
        fault("(-(-(-(-w))))", -1);
        fault("(-(-(-(-(w)))))", 8);
    }

    /** Terms 1: "a NUMBER of 1 to 3 digits". */
    private static void oneToThreeDigits() {
        value("7", 7);
        value("77", 77);
        value("777", 777);
        value("000", 0);
        value("007", 7);
        fault("7777", 3);
        fault("0007", 3);
        fault("w+7777", 5);
        fault("(7777)", 4);
        fault("123+456-789*1234", 15);
    }

    /** Terms 1: "< > = bind least (two; 1 or 0; not one behind the other)". */
    private static void notOneBehindTheOther() {
        for (char one : "<>=".toCharArray()) {
            for (char other : "<>=".toCharArray()) {
                fault("w" + one + "k", -1);
                fault("w" + one + other + "k", 2);
                fault("w" + one + "k" + other + "r", 3);
                fault("w" + one + "k+1" + other + "r", 5);
                fault("(w" + one + "k" + other + "r)", 4);
                fault("(w" + one + "k)" + other + "r", -1);
                fault("w" + one + "(k" + other + "r)", -1);
                fault("(w" + one + "k)+(k" + other + "r)", -1);
            }
        }
        value("3<4", 1);
        value("4<4", 0);
        value("5<4", 0);
        value("5>4", 1);
        value("4>4", 0);
        value("3>4", 0);
        value("4=4", 1);
        value("4=5", 0);
        value("5=4", 0);
        value("2+2=4", 1);
        value("4=2*2", 1);
        value("9-5>3", 1);
        value("-1<0", 1);
        value("9*(3<4)+5*(4<3)", 9);
        value("9+(4<4)", 9);
        value("9+(4>4)", 9);
        value("9+(4=5)", 9);
        value("9+(4<5)+(5>4)+(4=4)", 12);
    }

    /** Terms 1: "then - ahead of a thing (any many)". */
    private static void anyManyMinuses() {
        for (int many = 0; many <= 38; many++) {
            value("-".repeat(many) + "20", many % 2 == 0 ? 20 : 0);
            value(many <= 33 ? "30+" + "-".repeat(many) + "20" : "50", many % 2 == 0 || many > 33 ? 50 : 10);
        }
        value("50--20", 70);
        value("50---20", 30);
        value("-2*-3", 6);
        value("2*-3+9", 3);
        value("-(2-9)", 7);
        value("--(9-2)", 7);
        value("9-(-3<-2)", 8);
    }

    /** Terms 1: "by 0: 0". */
    private static void byZero() {
        value("7/0", 0);
        value("0/0", 0);
        value("9+7/0", 9);
        value("9+7/(3-3)", 9);
        value("9+7/-0", 9);
        value("9+7/0*5", 9);
        value("9+5*7/0", 9);
        value("9+7/1", 16);
        value("9+7/-1", 2);
        value("9-7/d", 9);
    }

    /** Terms 1: "cut to 0". */
    private static void cutToZero() {
        value("7/2", 3);
        value("8/2", 4);
        value("1/2", 0);
        value("9+-7/2", 6);
        value("9-7/2", 6);
        value("9+7/-2", 6);
        value("9+-1/2", 9);
        value("9+-7/-2", 12);
        value("9+(0-7)/2", 6);
    }

    /** Terms 1: "then + - (from the left), then * / (from the left ..)". */
    private static void fromTheLeft() {
        value("20-5-3", 12);
        value("20-5+3", 18);
        value("100/7/2", 7);
        value("100/7*2", 28);
        value("7*3/2", 10);
        value("7/2*3", 9);
        value("2+3*4", 14);
        value("2*3+4", 10);
        value("20-2*3", 14);
        value("20-8/3", 18);
        value("1+2<3*1", 0);
        value("1+1<3*1", 1);
    }

    /** Terms 1: "put to 0 .. 999: VALUE". */
    private static void putToValue() {
        value("0", 0);
        value("1", 1);
        value("-1", 0);
        value("0-999", 0);
        value("998", 998);
        value("999", 999);
        value("999+1", 999);
        value("999*999", 999);
        // What is put is the whole alone, not what it is made of.
        value("999+999-998", 999);
        value("999+999-999-1", 998);
        value("5-9+7", 3);
        value("(5-9)*-3", 12);
    }

    /** Terms 1: "As ints". */
    private static void asInts() {
        value("999*999*999*3", 0);
        value("999*999*999*3/999/999", 0);
        value("-(999*999*999*3)/999/999", 999);
        value("999*999*999*2/999/999/2", 999);
        // 512 * 512 * 512 * 16 is 2 to the 31st, the least int: it is its own negation, and by -1 itself.
        value("512*512*512*16<0", 1);
        value("-(512*512*512*16)<0", 1);
        value("512*512*512*16/-1<0", 1);
        value("512*512*512*16-1>0", 1);
        value("512*512*512*32", 0);
        value("512*512*512*32+7", 7);
    }

    /** Terms 1: w, k, r, s, h, e, d. */
    private static void letters() {
        GiftsOfCourts x = Check.realm("391234;785678;255555", "120,40;05,91");
        String[] letters = {"w", "k", "r", "s", "h", "e", "d"};
        int[] due = {20, 5, 7, 3, 1, 4, 0};
        for (int i = 0; i < letters.length; i++) {
            Check.rule(x, letters[i]);
            check.due(letters[i], x.value(0, 1), due[i]);
        }
        Check.rule(x, "e");
        check.due("eats of a thing, as told", x.value(1, 0), 9);
        Check.rule(x, "100*h+10*s+d");
        x.send(0, 2);
        check.due("two had it, rank 2 has it", x.value(0, 1), 220);
        x.sheet(3, 0, 0, 0);
        x.months(1);
        check.due("4 of 4: alive", x.value(0, 1), 220);
        x.sheet(3, 0, 0, 0);
        x.send(0, 0);
        x.months(2);
        check.due("alive, fed by rank 3", x.value(0, 1), 230);
        GiftsOfCourts dead = Check.realm("191234;785678", "120,90");
        dead.sheet(3, 0, 0, 0);
        Check.rule(dead, "d");
        check.due("alive", dead.value(0, 1), 0);
        dead.months(1);
        check.due("dead", dead.value(0, 1), 1);
    }

    /** Promise 38: "-10000 - p: the sign at p can't stand there (as rule())". */
    private static void lawFault() {
        lawAt("?", 0);
        lawAt("w?", 1);
        lawAt("w+", 2);
        lawAt("7777", 3);
        lawAt("(((((w", 4);
        lawAt("w<k<r", 3);
        lawAt(FORTY.substring(0, 39) + ")", 39);
        lawAt(FORTY.substring(0, 39) + "+", 40);
        lawAt(FORTY + "1", 40);
        lawAt("-".repeat(80), 40);
        check.due("forty", Check.law(Check.busy(), FORTY) > -10000, true);
    }

    private static void lawAt(String text, int p) {
        check.refusedText("law of", Check::busy, text, GiftsOfCourts::law, -10000 - p);
    }

    /** Promise 38: "another RULE (an empty one: none)". */
    private static void lawOfAnEmptyText() {
        GiftsOfCourts x = Check.realm("354321;512345", "113,00;212,01");
        Check.rule(x, "7");
        int none = 13 * 4 / 5 + 12 * 3 / 5;
        check.due("none, less by the rule", x, Check.law(x, ""), none - 14, none, 14);
        Check.rule(x, "");
        check.due("none and none", x, Check.law(x, ""), 0, none, none);
        GiftsOfCourts empty = new GiftsOfCourts();
        check.due("without gifts", empty, Check.law(empty, "5"), 0, 0, 0);
        check.due("the most", Check.law(Check.alike(1, Check.lines("15,00", 8)), "999"), 8 * 999 - 8 * 5);
        GiftsOfCourts least = Check.alike(1, Check.lines("15,00", 8));
        Check.rule(least, "999");
        check.due("the least", least, Check.law(least, "0-1"), -8 * 999, 0, 8 * 999);
    }

    /** Terms 2: "Questions change nothing": not THE RULE, but the ROW, and THE TEXT, which it reads. */
    private static void lawChangesNothing() {
        GiftsOfCourts x = Check.busy();
        int before = x.value(0, 1);
        for (String text : new String[] {"1", "", "w*", "0-w"}) {
            Check.law(x, text);
            check.due("THE TEXT", x.count(12), 0);
            check.due("THE RULE", x.value(0, 1), before);
            check.due("acts", x.count(10), 2);
        }
    }

    /** The text as a rule, on an object with a rule of its own: -1 for one that can be. */
    private static void fault(String text, int p) {
        GiftsOfCourts x = Check.alike(1, "17,00");
        Check.rule(x, "w+1");
        check.due("rule of '" + text + "'", Check.rule(x, text), p < 0 ? 0 : -1 - p);
        check.due("THE TEXT behind '" + text + "'", x.count(12), 0);
        if (p >= 0) {
            check.due("THE RULE behind '" + text + "'", x.value(0, 0), 8);
            check.due("law of '" + text + "'", Check.law(x, text), -10000 - p);
        }
    }

    private static void value(String text, int want) {
        GiftsOfCourts x = Check.alike(1, "17,00");
        check.due("rule of '" + text + "'", Check.rule(x, text), 0);
        check.due("value by '" + text + "'", x.value(0, 0), want);
    }
}
