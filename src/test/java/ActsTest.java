/** Promises 12 to 17: send, months, envoy, forgive, year, undo. */
final class ActsTest {
    private static final Check check = new Check();

    public static void main(String[] args) {
        send();
        sendAnswers();
        sendDead();
        sendLimits();
        sendRule();
        months();
        monthsOrder();
        envoy();
        forgive();
        year();
        yearRefused();
        yearFaults();
        undo();
        undoOfYears();
        undoForgotten();
        undoOfFifteen();
        check.end();
    }

    private static void send() {
        GiftsOfCourts x = Check.realm("455555;655555;755555", "020,00;130,10;240,01");
        check.due("it has it", x.send(0, 0), -2);
        int[][] wrong = {{-1, 0}, {3, 0}, {0, -1}, {0, 3}, {8, 8}};
        for (int[] w : wrong) {
            check.due("none such", x.send(w[0], w[1]), -1);
        }
        check.due("nothing told", x.count(11), 0);
        check.due("nothing to undo", x.count(10), 0);
        check.due("sent", x, x.send(0, 1), 12, 20, 0);
        check.due("has it", x.gift(0, 3), 1);
        check.due("had it", x.gift(0, 4), 3);
        check.due("owes", x.between(1, 0, 1), 20);
        check.due("owes nothing back", x.between(0, 1, 1), 0);
        check.due("the sender thinks as it did", x.between(0, 1, 0), 10);
        check.due("one more", x, x.send(1, 1), 14, 30, 0);
        check.due("owes more", x.between(1, 0, 1), 50);
        check.due("refused calls leave the row", x.send(1, 1), -2);
        check.row("the row", x, 30, 0);
        check.due("on to another one", x, x.send(0, 2), 12, 20, 0);
        check.due("it owes to the one that sent", x.between(2, 1, 1), 20);
        check.due("and not to the first one", x.between(2, 0, 1), 0);
        check.due("known again", x, x.send(0, 0), 4, 20, 1);
        check.due("who had it", x.gift(0, 4), 7);
        check.due("no due by it", x.between(0, 2, 1), 0);
        check.due("nor was one paid", x.between(2, 0, 1), 0);
    }

    /** Court 1 owes 20 to court 0: answers of 9, 10, 40, 41. */
    private static void sendAnswers() {
        String[] answers = {"009,01", "010,01", "040,01", "041,01"};
        int[] esteem = {5, 14, 14, 8};
        for (int i = 0; i < answers.length; i++) {
            GiftsOfCourts x = Check.realm("555555;555555", "020,00;" + answers[i]);
            x.send(0, 1);
            check.due("due", x.between(1, 0, 1), 20);
            check.due("answer by " + answers[i], x.send(1, 0), esteem[i]);
            check.due("it is paid", x.between(1, 0, 1), 0);
            check.due("and makes no due", x.between(0, 1, 1), 0);
        }
        GiftsOfCourts small = Check.realm("555555;555555", "01,00;02,01");
        small.send(0, 1);
        check.due("even a due of 1 is answered", small.send(1, 0), 14);
        check.due("and paid", small.count(7), 0);
        GiftsOfCourts x = Check.realm("555555;555555", "020,00;021,01");
        x.send(0, 1);
        x.send(0, 0);
        check.due("a gift known again pays nothing", x.between(1, 0, 1), 20);
        check.due("the due is paid by another one", x.send(1, 0), 10 - 6 + 4);
        check.due("paid", x.between(1, 0, 1), 0);
    }

    private static void sendDead() {
        GiftsOfCourts x = Check.realm("155555;155555;155555", "120,90;010,01");
        x.send(1, 0);
        x.sheet(3, 0, 0, 0);
        x.months(1);
        check.due("dead", x.gift(0, 5), 1);
        check.due("a dead one", x, x.send(0, 1), 6, 20, 0);
        check.due("makes no due and pays none", x.between(1, 0, 1), 0);
        check.due("the due is there still", x.between(0, 1, 1), 10);
        check.due("a dead one known again", x, x.send(0, 0), 12 - 6, 20, 1);
        check.due("a dead one to another", x.send(0, 2), 6);
    }

    private static void sendLimits() {
        GiftsOfCourts x = Check.realm("555555;555555", "020,00;020,00");
        x.envoy(1, 0, 9);
        check.due("20 at most", x.send(0, 1), 20);
        x.envoy(0, 1, -8);
        check.due("0 at least", x.send(0, 0), 0);
        GiftsOfCourts y = Check.realm("555555;555555", "01,00;01,00;01,00;01,00;01,00;01,00;01,00;01,00");
        Check.rule(y, "999");
        for (int g = 0; g < 8; g++) {
            y.send(g, 1);
        }
        // More can't be owed between two courts: each of eight gifts counts only once for the same court.
        check.due("eight of 999", y.between(1, 0, 1), 7992);
        check.due("dues together", y.count(7), 7992);
    }

    /** What a gift is worth is asked ahead of its going: who has it and how many had it are as they were. */
    private static void sendRule() {
        GiftsOfCourts x = Check.realm("355555;555555;755555", "020,00");
        Check.rule(x, "h*100+r*10+s");
        check.due("ahead of its going", x, x.send(0, 1), 12, 153, 0);
        check.due("and further", x, x.send(0, 2), 12, 275, 0);
        check.due("due", x.between(2, 1, 1), 275);
    }

    private static void months() {
        GiftsOfCourts x = Check.realm("355555;155555", "120,90;15,51;25,91");
        check.due("61", x.months(61), -1);
        check.due("-1", x.months(-1), -1);
        check.due("nothing told", x.count(11), 0);
        check.due("no month", x, x.months(0), 0, 0, 100);
        check.due("that can be undone too", x.count(10), 1);
        check.due("one", x, x.months(1), 0, 0, 50 + 6 - 9 + 50 + 2 - 5);
        check.due("month", x.count(2), 1);
        check.due("grain 0", x.court(0, 1), 47);
        check.due("till they die", x, x.months(60), 2, 3, x.count(3));
        check.due("month", x.count(2), 61);
        check.due("dead", x.count(4), 3);
        check.due("none more dies", x, x.months(1), 0, 0, x.count(3));
    }

    /** Of grain that is not enough for all, those with lower numbers eat first; who goes without leaves nothing. */
    private static void monthsOrder() {
        GiftsOfCourts x = Check.realm("155555", "15,50;45,40;15,10;05,90;35,90;25,90;15,00");
        x.sheet(2, 1, 4, 0);
        check.due("the second dies and leaves nothing", x, x.months(1), 2, 0b110, 0);
        check.due("the first lives", x.gift(0, 5), 0);
        check.due("the next month", x, x.months(1), 1, 1, 0);
        check.due("one that eats nothing lives", x, x.months(5), 0, 0, 10);
        GiftsOfCourts y = Check.realm("955555", "");
        y.sheet(2, 1, 990, 0);
        check.due("999 at most", y, y.months(1), 0, 0, 999);
        GiftsOfCourts z = Check.realm("955555", "15,90");
        z.sheet(2, 1, 999, 0);
        check.due("999 ahead of the meal", z, z.months(1), 0, 0, 990);
        GiftsOfCourts just = Check.realm("155555", "12,20");
        just.sheet(3, 0, 0, 0);
        check.due("just enough", just, just.months(3), 0, 0, 0);
    }

    private static void envoy() {
        GiftsOfCourts x = Check.realm("555555;555555", "");
        int[][] wrong = {{0, 0, 1}, {0, 2, 1}, {2, 0, 1}, {-1, 0, 1}, {0, -1, 1}, {0, 1, 0}, {0, 1, 10}, {0, 1, -10}};
        for (int[] w : wrong) {
            check.due("refused", x.envoy(w[0], w[1], w[2]), -1);
        }
        check.due("nothing to undo", x.count(10), 0);
        check.due("more", x.envoy(0, 1, 9), 19);
        check.due("20 at most", x.envoy(0, 1, 9), 20);
        check.due("less", x.envoy(1, 0, -9), 1);
        check.due("0 at least", x.envoy(1, 0, -9), 0);
        check.due("each its own", x.between(0, 1, 0), 20);
        check.due("three could stand without change", x.count(10), 4);
        check.due("nothing told", x.count(11), 0);
    }

    private static void forgive() {
        GiftsOfCourts x = Check.realm("555555;555555;555555", "020,00");
        check.due("0", x.forgive(1, 0), -2);
        int[][] wrong = {{0, 0}, {0, 3}, {3, 0}, {-1, 0}, {0, -1}};
        for (int[] w : wrong) {
            check.due("refused", x.forgive(w[0], w[1]), -1);
        }
        x.send(0, 1);
        check.due("the other way it is 0", x.forgive(0, 1), -2);
        check.due("what 1 owes to 0", x.forgive(1, 0), 20);
        check.due("then 0", x.between(1, 0, 1), 0);
        check.due("0 again", x.forgive(1, 0), -2);
        check.due("undone", x.undo(), 1);
        check.due("owes again", x.between(1, 0, 1), 20);
    }

    private static void year() {
        GiftsOfCourts x = Check.realm("555555;555555;555555", "020,00;120,91");
        check.due("nothing", x, Check.year(x, ""), 0, 0, 0);
        check.due("nothing to undo", x.count(10), 0);
        check.due("all", x, Check.year(x, "s01m2f10p219q219m0"), 6, 0, 0);
        check.due("text is read", x.count(12), 0);
        check.due("sent", x.gift(0, 3), 1);
        check.due("esteem", x.between(1, 0, 0), 12);
        check.due("months", x.count(2), 2);
        check.due("forgiven", x.count(7), 0);
        check.due("more and less", x.between(2, 1, 0), 10);
        check.due("so much more", Check.year(x, "p127"), 1);
        check.due("of the first for the second", x.between(1, 2, 0), 17);
        check.due("so much less", Check.year(x, "q128"), 1);
        check.due("of the first for the second", x.between(1, 2, 0), 9);
        x.sheet(3, 0, 0, 0);
        GiftsOfCourts y = Check.realm("155555", "120,90;120,90");
        y.sheet(3, 0, 0, 0);
        check.due("how many are dead", y, Check.year(y, "m1"), 1, 0, 2);
    }

    private static void yearRefused() {
        GiftsOfCourts x = Check.realm("555555;555555;555555", "020,00");
        check.due("the first", x, Check.year(x, "s00m1"), 0, 1, 0);
        check.due("nothing to undo", x.count(10), 0);
        check.due("no month", x.count(2), 0);
        check.due("the third", x, Check.year(x, "m1s01s01m1"), 2, 1, 0);
        check.due("one to undo", x.count(10), 1);
        check.due("one month", x.count(2), 1);
        String[] refused = {"s10", "s03", "s99", "f01", "f00", "f39", "p001", "p031", "q991"};
        for (String act : refused) {
            check.due(act, x, Check.year(x, act + "m1"), 0, 1, 0);
        }
        check.due("still one month", x.count(2), 1);
    }

    private static void yearFaults() {
        yearFault("x", 0);
        yearFault("0", 0);
        yearFault("s", 1);
        yearFault("sx", 1);
        yearFault("s0", 2);
        yearFault("s0m", 2);
        yearFault("m", 1);
        yearFault("mm", 1);
        yearFault("m11", 2);
        yearFault("f0", 2);
        yearFault("p01", 3);
        yearFault("p010", 3);
        yearFault("p01x", 3);
        yearFault("q010", 3);
        yearFault("m1 m1", 2);
        yearFault("m1;m1", 2);
        yearFault("m1m1m", 5);
        String sixty = "m0".repeat(30);
        yearFault(sixty + "m", 60);
        yearFault(sixty + "m1", 60);
        yearFault(sixty + "x", 60);
        yearFault("x" + sixty, 0);
        yearFault("m0".repeat(29) + "s01", 60);
        yearFault("m0".repeat(29) + "s0", 60);
        yearFault("m0".repeat(29) + "sx1", 59);
        yearFault("m0".repeat(28) + "s0p011", 58);
        GiftsOfCourts x = Check.realm("555555;555555", "020,00");
        check.due("sixty", x, Check.year(x, sixty), 30, 0, 0);
        check.due("sixty of others", x, Check.year(x, "m1".repeat(25) + "q011s01s01"), 27, 1, 0);
    }

    private static void yearFault(String text, int p) {
        GiftsOfCourts x = Check.realm("555555;555555", "020,00");
        check.due("year of '" + text + "'", Check.year(x, text), -1 - p);
        check.due("nothing is done", x.count(2), 0);
        check.due("nor to undo", x.count(10), 0);
        check.due("nor told", x.count(11), 0);
        check.due("'" + text + "' is read", x.count(12), 0);
    }

    private static void undo() {
        GiftsOfCourts x = Check.realm("155555;555555", "120,90;110,91");
        check.due("none", x.undo(), -1);
        x.sheet(2, 2, 5, 0);
        x.send(0, 1);
        x.months(3);
        x.envoy(0, 1, 4);
        x.forgive(1, 0);
        x.send(0, 0);
        check.due("five", x.count(10), 5);
        check.due("undo send", x.undo(), 4);
        check.due("has it", x.gift(0, 3), 1);
        check.due("no due", x.between(1, 0, 1), 0);
        check.due("undo forgive", x.undo(), 3);
        check.due("owes", x.between(1, 0, 1), 20);
        check.due("thinks", x.between(0, 1, 0), 14);
        check.due("undo envoy", x.undo(), 2);
        check.due("thinks", x.between(0, 1, 0), 10);
        check.due("month", x.count(2), 3);
        check.due("one is dead", x.count(4) != 0, true);
        check.due("undo months", x.undo(), 1);
        check.due("month", x.count(2), 0);
        check.due("none is dead", x.count(4), 0);
        check.due("grain", x.count(3), 10);
        check.due("undo send", x.undo(), 0);
        check.due("has it", x.gift(0, 3), 0);
        check.due("had it", x.gift(0, 4), 1);
        check.due("owes nothing", x.between(1, 0, 1), 0);
        check.due("thinks", x.between(1, 0, 0), 10);
        check.due("no more", x.undo(), -1);
        check.due("refused ones are not kept", x.send(0, 0) + x.send(9, 9) + x.months(99) + x.undo(), -5);
        x.road(0, 1, 5);
        Check.rule(x, "7");
        x.months(1);
        x.road(0, 1, 6);
        Check.rule(x, "8");
        x.heard(0, 1);
        x.undo();
        check.due("roads stay", x.between(0, 1, 2), 6);
        check.due("the rule stays", x.value(0, 1), 8);
        check.due("what was heard stays", x.count(9), 1);
    }

    private static void undoOfYears() {
        GiftsOfCourts x = Check.realm("555555;555555", "020,00");
        x.months(2);
        Check.year(x, "m1s01p012");
        check.due("as one", x.undo(), 1);
        check.due("months", x.count(2), 2);
        check.due("gift", x.gift(0, 4), 1);
        check.due("esteem", x.between(0, 1, 0), 10);
        Check.year(x, "m1s00");
        check.due("of which one act was done", x.count(10), 2);
        Check.year(x, "s00m1");
        check.due("of which none was", x.count(10), 2);
        check.due("undone", x.undo(), 1);
        check.due("months", x.count(2), 2);
        x.sheet(2, 2, 7, 0);
        check.due("undone", x.undo(), 0);
        check.due("grain is as ahead of it", x.count(3), 100);
    }

    private static void undoForgotten() {
        GiftsOfCourts x = Check.realm("555555;555555", "020,00");
        x.keep(0);
        x.months(1);
        check.due("an empty text", Check.courts(x, "") + Check.gifts(x, ""), 0);
        check.due("forgets none", x.count(10), 1);
        Check.courts(x, "x");
        Check.gifts(x, "x");
        x.again(1);
        check.due("refused ones forget none", x.count(10), 1);
        check.due("again forgets", x.again(0), true);
        check.due("none", x.undo(), -1);
        x.months(1);
        Check.gifts(x, "010,00");
        check.due("gifts forget", x.undo(), -1);
        x.months(1);
        Check.courts(x, "555555");
        check.due("courts forget", x.undo(), -1);
        x.months(1);
        check.due("and then it begins anew", x.undo(), 0);
        check.due("months stay", x.count(2), 2);
    }

    private static void undoOfFifteen() {
        GiftsOfCourts x = Check.realm("155555;155555", "");
        for (int i = 1; i <= 40; i++) {
            x.months(1);
            check.due("kept", x.count(10), Math.min(i, 15));
        }
        // A year of which nothing is done must not cost the oldest one that is kept.
        check.due("refused", Check.year(x, "s00"), 0);
        for (int i = 1; i <= 15; i++) {
            check.due("left", x.undo(), 15 - i);
            check.due("month", x.count(2), 40 - i);
        }
        check.due("no more", x.undo(), -1);
        check.due("month", x.count(2), 25);
        for (int i = 0; i < 20; i++) {
            x.months(2);
        }
        x.undo();
        x.undo();
        x.months(3);
        check.due("fourteen", x.count(10), 14);
        check.due("undone", x.undo(), 13);
        check.due("month", x.count(2), 25 + 36);
    }
}
