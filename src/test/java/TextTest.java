/** Promises 1 to 6: a new object, THE TEXT, and courts, gifts and the rule told by it. */
final class TextTest {
    private static final Check check = new Check();
    private static final String SIX = "123456;223456;323456;423456;523456;623456";

    public static void main(String[] args) {
        newObject();
        sign();
        end();
        courts();
        courtsFaults();
        gifts();
        giftsFaults();
        ruleFaults();
        ruleLimits();
        ruleValues();
        check.end();
    }

    private static void newObject() {
        GiftsOfCourts x = new GiftsOfCourts();
        for (int what = 0; what <= 12; what++) {
            check.due("new: count(" + what + ")", x.count(what), 0);
        }
        check.noSuch("new: court(0, 0)", () -> x.court(0, 0));
        check.noSuch("new: gift(0, 0)", () -> x.gift(0, 0));
        check.noSuch("new: row(0)", () -> x.row(0));
        check.due("new: undo()", x.undo(), -1);
        check.due("new: again(0)", x.again(0), false);
    }

    private static void sign() {
        GiftsOfCourts x = new GiftsOfCourts();
        for (int n = 4; n <= 80; n += 4) {
            check.due("sign", x.sign(0x31323334), n);
        }
        check.due("sign of more than 80", x.sign(0x31323334), -1);
        check.due("count(12)", x.count(12), 80);
        check.due("end(77)", x.end(77), true);
        check.due("sign of 81", x.sign(0), -1);
        check.due("end(76)", x.end(76), true);
        check.due("sign of 80", x.sign(0), 80);

        GiftsOfCourts y = new GiftsOfCourts();
        y.sign('9' << 24 | '1' << 16 | '2' << 8 | '3');
        y.sign('4' << 24 | '5' << 16);
        y.end(6);
        check.due("highest byte first", y.courts(), 1);
        check.due("rank", y.court(0, 0), 9);
        check.due("taste 4", y.court(0, 14), 5);

        GiftsOfCourts z = new GiftsOfCourts();
        z.sign(0xFFFFFFFF);
        check.due("signs above 127 are no digits", z.courts(), -1);
    }

    private static void end() {
        GiftsOfCourts x = new GiftsOfCourts();
        check.due("end(0)", x.end(0), true);
        check.due("end(1) of none", x.end(1), false);
        check.due("end(-1)", x.end(-1), false);
        x.sign(0x35353535);
        check.due("end(5) of four", x.end(5), false);
        check.due("it has four", x.count(12), 4);
        check.due("end(4)", x.end(4), true);
        check.due("end(3)", x.end(3), true);
        check.due("end(min)", x.end(Integer.MIN_VALUE), false);
        check.due("it has three", x.count(12), 3);
        check.due("too short for courts", x.courts(), -4);
        check.due("a call that reads it empties it", x.count(12), 0);
    }

    private static void courts() {
        GiftsOfCourts x = new GiftsOfCourts();
        check.due("one", Check.courts(x, "912045"), 1);
        check.due("two more", Check.courts(x, "100000;299999"), 2);
        check.due("three there", x.count(0), 3);
        check.due("text is read", x.count(12), 0);
        check.due("rank 0", x.court(0, 0), 9);
        check.due("rank 2", x.court(2, 0), 2);
        int[] tastes = {1, 2, 0, 4, 5};
        for (int kind = 0; kind < 5; kind++) {
            check.due("taste", x.court(0, 10 + kind), tastes[kind]);
        }
        check.due("grain", x.court(1, 1), 50);
        check.due("esteem", x.between(2, 0, 0), 10);
        check.due("due", x.between(2, 0, 1), 0);
        check.due("road", x.between(2, 0, 2), -1);
        x.sheet(2, 3, 7, 0);
        x.envoy(0, 1, 3);
        x.months(1);
        check.due("three more", Check.courts(x, "111111;111111;111111"), 3);
        check.due("they leave the others alone", x.between(0, 1, 0), 13);
        check.due("grain of old ones", x.court(0, 1), 25);
        check.due("grain of new ones", x.court(5, 1), 50);
        check.due("esteem of new ones", x.between(5, 0, 0), 10);
        check.due("esteem for new ones", x.between(0, 5, 0), 10);
        check.due("month goes on", x.count(2), 1);
        check.due("nothing", Check.courts(x, ""), 0);
        check.due("six there", x.count(0), 6);
        check.due("six at once", Check.courts(new GiftsOfCourts(), SIX), 6);
    }

    private static void courtsFaults() {
        courtsFault("012345", 0);
        courtsFault("x12345", 0);
        courtsFault(";", 0);
        courtsFault("1", 1);
        courtsFault("12345", 5);
        courtsFault("12x456", 2);
        courtsFault("1234567", 6);
        courtsFault("123456,", 6);
        courtsFault("123456;", 7);
        courtsFault("123456;;", 7);
        courtsFault("123456;012345", 7);
        courtsFault("123456;12345", 12);
        courtsFault("123456 ", 6);
        courtsFault(SIX.substring(0, 40), 40);
        courtsFault(SIX + ";", 41);
        courtsFault(SIX + ";123456", 41);
        courtsFault(SIX + "x", 41);
        courtsFault("x" + SIX, 0);
        courtsFault(SIX.substring(0, 40) + "xyz", 40);
        GiftsOfCourts x = new GiftsOfCourts();
        Check.courts(x, "555555;555555;555555;555555");
        check.due("no room for the third", Check.courts(x, "555555;555555;555555"), -1 - 14);
        check.due("no room, wherever it is wrong behind", Check.courts(x, "555555;555555;x"), -1 - 14);
        check.due("no room, and it ends", Check.courts(x, "555555;555555;"), -1 - 14);
        check.due("wrong ahead of no room", Check.courts(x, "555555;55x555;555555"), -1 - 9);
        check.due("nothing of it came", x.count(0), 4);
        check.due("room for two", Check.courts(x, "555555;555555"), 2);
        check.due("no room at all", Check.courts(x, "555555"), -1);
        check.due("no room, and a wrong sign", Check.courts(x, "x"), -1);
        check.due("an empty one still", Check.courts(x, ""), 0);
    }

    private static void courtsFault(String text, int p) {
        GiftsOfCourts x = new GiftsOfCourts();
        check.due("courts of '" + text + "'", Check.courts(x, text), -1 - p);
        check.due("nothing of '" + text + "' came", x.count(0), 0);
        check.due("'" + text + "' is read", x.count(12), 0);
    }

    private static void gifts() {
        GiftsOfCourts x = new GiftsOfCourts();
        Check.courts(x, "555555;555555");
        check.due("three", Check.gifts(x, "05,91;499,00;301,10"), 3);
        int[][] due = {{0, 5, 9, 1, 2, 0}, {4, 99, 0, 0, 1, 0}, {3, 1, 1, 0, 1, 0}};
        for (int g = 0; g < 3; g++) {
            for (int what = 0; what < 6; what++) {
                check.due("gift(" + g + ", " + what + ")", x.gift(g, what), due[g][what]);
            }
        }
        check.due("one more", Check.gifts(x, "210,00"), 1);
        check.due("four there", x.count(1), 4);
        check.due("worth", x.gift(3, 1), 10);
        check.due("nothing", Check.gifts(x, ""), 0);
        check.due("four more", Check.gifts(x, "11,00;11,00;11,00;11,01"), 4);
        check.due("eight there", x.count(1), 8);
        check.due("no room", Check.gifts(x, "11,00"), -1);
        check.due("eight of the longest", Check.gifts(new Courts(2).x, eight("112,91")), 8);
    }

    private static void giftsFaults() {
        giftsFault("5", 0);
        giftsFault("x", 0);
        giftsFault("1", 1);
        giftsFault("1,", 1);
        giftsFault("10", 1);
        giftsFault("10,", 1);
        giftsFault("10x", 1);
        giftsFault("10,50", 1);
        giftsFault("100", 2);
        giftsFault("100,50", 2);
        giftsFault("1005", 2);
        giftsFault("15", 2);
        giftsFault("15x", 2);
        giftsFault("112", 3);
        giftsFault("1123", 3);
        giftsFault("112,", 4);
        giftsFault("112,x", 4);
        giftsFault("112,5", 5);
        giftsFault("112,5x", 5);
        giftsFault("112,52", 5);
        giftsFault("112,511", 6);
        giftsFault("112,51,", 6);
        giftsFault("112,51;", 7);
        giftsFault("112,51;;", 7);
        giftsFault("112,51;5", 7);
        giftsFault("112,51;10,", 8);
        giftsFault(eight("112,91") + ";", 55);
        giftsFault(eight("112,91") + "x", 55);
        giftsFault(eight("112,91") + ";112,91", 55);
        giftsFault(eight("12,91") + ";", 48);
        giftsFault(eight("12,91") + ";12,91", 48);
        giftsFault(eight("12,91") + ";x", 48);
        giftsFault(eight("12,91") + "x", 47);
        GiftsOfCourts x = new Courts(2).x;
        Check.gifts(x, "11,00;11,00;11,00;11,00;11,00;11,00;11,00");
        check.due("no room for the second", Check.gifts(x, "11,00;11,00"), -1 - 6);
        check.due("nothing of it came", x.count(1), 7);
        check.due("no courts", Check.gifts(new GiftsOfCourts(), "11,00"), -1 - 4);
    }

    private static void giftsFault(String text, int p) {
        GiftsOfCourts x = new Courts(2).x;
        check.due("gifts of '" + text + "'", Check.gifts(x, text), -1 - p);
        check.due("nothing of '" + text + "' came", x.count(1), 0);
        check.due("'" + text + "' is read", x.count(12), 0);
    }

    private static String eight(String line) {
        StringBuilder text = new StringBuilder(line);
        for (int i = 1; i < 8; i++) {
            text.append(';').append(line);
        }
        return text.toString();
    }

    private static void ruleFaults() {
        ruleFault("z", 0);
        ruleFault("W", 0);
        ruleFault("+w", 0);
        ruleFault(")", 0);
        ruleFault("w+", 2);
        ruleFault("w+*k", 2);
        ruleFault("wk", 1);
        ruleFault("w2", 1);
        ruleFault("2w", 1);
        ruleFault("w(", 1);
        ruleFault("w)", 1);
        ruleFault("w ", 1);
        ruleFault("1234", 3);
        ruleFault("-", 1);
        ruleFault("--", 2);
        ruleFault("w-", 2);
        ruleFault("w*-", 3);
        ruleFault("()", 1);
        ruleFault("(w", 2);
        ruleFault("(w))", 3);
        ruleFault("(w)k", 3);
        ruleFault("(w)2", 3);
        ruleFault("w<k<r", 3);
        ruleFault("w<k+1=r", 5);
        ruleFault("w=<k", 2);
        ruleFault("<k", 0);
        ruleFault("(w<k>r)", 4);
        ruleFault("(w<k)<r>s", 7);
        ruleFault("(((((w)))))", 4);
        ruleFault("((((w", 5);
        ruleFault("((((w)))", 8);
        ruleFault("(((w)+(w)+((", 12);
        ruleFault("(((w)+(w)+(((", 12);
        ruleRight("((((w))))");
        ruleRight("(((w)+(k))*((r)))");
        ruleRight("(w<k)<(r>s)");
        ruleRight("w<-k");
        ruleRight("--w---k*--2/-3");
        ruleRight("000+999");
        ruleRight("w+k*r/s-h+e+d");
    }

    private static void ruleLimits() {
        String forty = "1+1+1+1+1+1+1+1+1+1+1+1+1+1+1+1+1+1+1+12";
        check.due("a rule of forty", forty.length(), 40);
        ruleRight(forty);
        ruleFault(forty + "3", 40);
        ruleFault(forty + "+", 40);
        ruleFault(forty + "x", 40);
        ruleFault(forty + "+1", 40);
        ruleFault("z" + forty, 0);
        ruleFault(forty.substring(0, 39) + "x", 39);
        ruleFault(forty.substring(0, 39) + "+", 40);
        ruleFault(forty.substring(0, 39) + "+1", 40);
        ruleFault(forty.substring(0, 39) + ")1", 39);
        ruleFault("(" + forty.substring(2), 39);
        ruleFault("-".repeat(40), 40);
        ruleFault("-".repeat(50), 40);
        ruleRight("-".repeat(39) + "w");
        ruleRight("-".repeat(37) + "123");
    }

    private static void ruleFault(String text, int p) {
        GiftsOfCourts x = new Courts(2).x;
        Check.gifts(x, "17,01");
        Check.rule(x, "w+1");
        check.due("rule of '" + text + "'", Check.rule(x, text), -1 - p);
        check.due("'" + text + "' is read", x.count(12), 0);
        check.due("the rule is as it was", x.value(0, 0), 8);
        check.due("law of '" + text + "'", Check.law(x, text), -10000 - p);
        check.due("it is read", x.count(12), 0);
        check.due("the rule is still as it was", x.value(0, 0), 8);
    }

    private static void ruleRight(String text) {
        GiftsOfCourts x = new GiftsOfCourts();
        check.due("rule of '" + text + "'", Check.rule(x, text), 0);
        check.due("'" + text + "' is read", x.count(12), 0);
    }

    /** Court 0 has rank 3, court 1 rank 7 and taste 5 for beasts; gift 0 is a beast of worth 20 that eats 4, in court 0. */
    private static void ruleValues() {
        GiftsOfCourts x = Check.realm("391234;785678", "120,40");
        valueBy(x, "", 20);
        valueBy(x, "w", 20);
        valueBy(x, "k", 5);
        valueBy(x, "r", 7);
        valueBy(x, "s", 3);
        valueBy(x, "h", 1);
        valueBy(x, "e", 4);
        valueBy(x, "d", 0);
        valueBy(x, "007", 7);
        valueBy(x, "999", 999);
        valueBy(x, "999+1", 999);
        valueBy(x, "-1", 0);
        valueBy(x, "--5", 5);
        valueBy(x, "2+3*4", 14);
        valueBy(x, "(2+3)*4", 20);
        valueBy(x, "20-5-3", 12);
        valueBy(x, "20-(5-3)", 18);
        valueBy(x, "100/7/2", 7);
        valueBy(x, "100/7*2", 28);
        valueBy(x, "7/0", 0);
        valueBy(x, "7/(w-20)+1", 1);
        valueBy(x, "10+-7/2", 7);
        valueBy(x, "10-7/-2", 13);
        valueBy(x, "10+(0-7)/2", 7);
        valueBy(x, "3<4", 1);
        valueBy(x, "4<3", 0);
        valueBy(x, "3<3", 0);
        valueBy(x, "4>3", 1);
        valueBy(x, "3>3", 0);
        valueBy(x, "3=3", 1);
        valueBy(x, "3=4", 0);
        valueBy(x, "1+2=3", 1);
        valueBy(x, "1+(2=3)", 1);
        valueBy(x, "0-1<0", 1);
        valueBy(x, "(w>9)*50+(w<9)*3", 50);
        valueBy(x, "2--3", 5);
        valueBy(x, "2*-3+10", 4);
        valueBy(x, "-2*-3", 6);
        valueBy(x, "999*999*999*3", 0);
        valueBy(x, "999*999*999*3/-999/999", 999);
        valueBy(x, "999*999*999/999/999", 999);
        valueBy(x, "w+k*r/s-h+e+d", 20 + 5 * 7 / 3 - 1 + 4);
        check.due("none again", Check.rule(x, ""), 0);
        check.due("by the first rule", x.value(0, 1), 20);
    }

    private static void valueBy(GiftsOfCourts x, String rule, int want) {
        Check.rule(x, rule);
        check.due("value by '" + rule + "'", x.value(0, 1), want);
    }

    /** So many courts of rank 5 and taste 5. */
    private static final class Courts {
        final GiftsOfCourts x = new GiftsOfCourts();

        Courts(int n) {
            for (int i = 0; i < n; i++) {
                Check.courts(x, "555555");
            }
        }
    }
}
