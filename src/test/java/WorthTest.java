/** Promises 18 to 23: value, where, answer, wins, unseen, swaps. */
final class WorthTest {
    private static final Check check = new Check();

    public static void main(String[] args) {
        value();
        where();
        answer();
        answerTies();
        wins();
        winsByAnswers();
        winsTies();
        unseen();
        swaps();
        swapsTies();
        check.end();
    }

    private static void value() {
        GiftsOfCourts x = Check.realm("312345;967890", "050,00;199,91");
        check.due("for the one that has it", x.value(0, 0), 10);
        check.due("for the other", x.value(0, 1), 60);
        check.due("cut", x.value(1, 0), 99 * 2 / 5);
        check.due("of a beast", x.value(1, 1), 99 * 7 / 5);
        int[][] wrong = {{-1, 0}, {2, 0}, {0, -1}, {0, 2}};
        for (int[] w : wrong) {
            check.due("none such", x.value(w[0], w[1]), -1);
        }
        Check.rule(x, "d*900+h*10+s");
        check.due("alive", x.value(1, 0), 19);
        x.sheet(3, 0, 0, 0);
        check.due("fed still", x.months(1), 0);
        x.send(1, 0);
        x.sheet(3, 0, 0, 0);
        check.due("one dies", x.months(1), 1);
        check.due("dead, two had it, of rank 3", x.value(1, 0), 923);
        check.due("nothing else to undo", x.count(10), 3);
    }

    private static void where() {
        GiftsOfCourts x = Check.realm("555555;595555;595555;515555", "010,01;110,00");
        check.due("the first of equal ones, not its own", x, x.where(0), 2, 18, 2);
        check.due("another kind", x, x.where(1), 1, 10, 10);
        check.due("none such", x.where(2), -1);
        check.due("none such", x.where(-1), -1);
        check.row("the row stays", x, 10, 10);
        GiftsOfCourts alone = Check.realm("555555", "010,00");
        check.due("no other court", alone.where(0), -2);
        check.due("nothing told", alone.count(11), 0);
        Check.rule(x, "0");
        check.due("worth nothing", x, x.where(1), 1, 0, 0);
    }

    private static void answer() {
        GiftsOfCourts x = Check.realm("555555;555555;555555", "020,00;009,01;041,01;030,01");
        check.due("none such", x.answer(0, 3), -1);
        check.due("none such", x.answer(-1, 0), -1);
        check.due("like ones", x.answer(1, 1), -1);
        check.due("no gift", x.answer(2, 0), -2);
        check.due("nothing told", x.count(11), 0);
        check.due("without a due the cheapest", x, x.answer(1, 0), 1, 12, 9);
        x.send(0, 1);
        check.due("one that pays as it is due", x, x.answer(1, 0), 3, 14, 30);
        check.due("nothing changes", x.gift(3, 3), 1);
        check.due("to one to which nothing is due", x, x.answer(1, 2), 1, 12, 9);
        check.due("one alone", Check.realm("555555;555555", "020,01").answer(1, 0), 0);
    }

    private static void answerTies() {
        GiftsOfCourts x = Check.realm("555555;555555", "020,00;020,00;010,00;010,00");
        check.due("least worth, then the first", x, x.answer(0, 1), 2, 12, 10);
        x.envoy(1, 0, 9);
        x.send(2, 1);
        check.due("at 20 all are equal", x, x.answer(0, 1), 3, 20, 10);
        GiftsOfCourts y = Check.realm("155555;555555", "110,90;030,00");
        y.sheet(3, 0, 0, 0);
        y.months(1);
        check.due("dead ones please less", y, y.answer(0, 1), 1, 12, 30);
        y.send(1, 1);
        check.due("but are answers", y, y.answer(0, 1), 0, 8, 10);
        y.send(1, 0);
        check.due("one known again is worse", y, y.answer(0, 1), 0, 8, 10);
        y.envoy(1, 0, -9);
        check.due("at 0 all are equal: the least worth", y, y.answer(0, 1), 0, 0, 10);
    }

    private static void wins() {
        GiftsOfCourts x = Check.realm("555555;555555", "040,00;030,00;020,00;010,00;050,00");
        check.due("none such", x.wins(0, 2), -1);
        check.due("none such", x.wins(-1, 1), -1);
        check.due("like ones", x.wins(1, 1), -1);
        check.due("no gifts", x.wins(1, 0), -2);
        check.due("nothing told", x.count(11), 0);
        check.due("three, the cheapest, in the least row", x, x.wins(0, 1), 3, 1, 2, 3);
        x.envoy(1, 0, 4);
        check.due("one", x, x.wins(0, 1), 1, 3);
        x.envoy(1, 0, 1);
        check.due("none needed", x, x.wins(0, 1), 0);
        x.envoy(1, 0, -8);
        check.due("four", x, x.wins(0, 1), 4, 0, 1, 2, 3);
        x.envoy(1, 0, -1);
        check.due("not by four", x.wins(0, 1), -2);
        check.row("the row stays", x, 0, 1, 2, 3);
        check.due("nothing changes", x.court(0, 2), 31);
    }

    /** Court 1 owes 20: an answer is worth 4, so the order counts. */
    private static void winsByAnswers() {
        GiftsOfCourts x = Check.realm("555555;555555", "020,00;005,01;020,01;099,01");
        x.send(0, 1);
        x.envoy(0, 1, -1);
        check.due("4 and 2: the fitting one first", x, x.wins(1, 0), 2, 2, 1);
        x.envoy(0, 1, 2);
        check.due("4 alone", x, x.wins(1, 0), 1, 2);
        GiftsOfCourts y = Check.realm("555555;555555", "020,00;005,01;045,01;001,01;001,01");
        y.send(0, 1);
        y.envoy(0, 1, 5);
        check.due("already", y, y.wins(1, 0), 0);
        y.envoy(0, 1, -1);
        check.due("-5 or -2 first: 12 and 2 and 2 by one too great", y, y.wins(1, 0), 3, 2, 3, 4);
    }

    private static void winsTies() {
        GiftsOfCourts x = Check.realm("555555;555555", "010,00;010,00;020,00;005,00");
        x.envoy(1, 0, 2);
        check.due("least worth, then the least row", x, x.wins(0, 1), 2, 0, 3);
        x.send(3, 1);
        x.envoy(1, 0, -2);
        check.due("without the cheapest", x, x.wins(0, 1), 2, 0, 1);
        x.send(3, 0);
        x.envoy(1, 0, -1);
        check.due("one known again is none to win by", x, x.wins(0, 1), 2, 0, 1);
    }

    private static void unseen() {
        GiftsOfCourts x = Check.realm("555555;555555;555555;555555", "020,00;020,01");
        check.due("none such", x.unseen(2), -1);
        check.due("none such", x.unseen(-1), -1);
        check.due("all others", x, x.unseen(0), 0b1110, 3);
        x.send(0, 1);
        check.due("not those that had it", x, x.unseen(0), 0b1100, 2);
        ally(x, 0, 2);
        check.due("nor an ally of one that had it", x, x.unseen(0), 0b1000, 1);
        ally(x, 1, 3);
        check.due("an ally of the one that has it may", x, x.unseen(0), 0b1000, 1);
        check.due("of another gift", x, x.unseen(1), 0b1101, 3);
        x.envoy(0, 2, -9);
        check.due("no ally any more", x, x.unseen(0), 0b1100, 2);
        x.send(0, 2);
        check.due("behind it the ally of 1", x, x.unseen(0), 0, 0);
    }

    private static void ally(GiftsOfCourts x, int one, int other) {
        x.envoy(one, other, 9);
        x.envoy(other, one, 9);
    }

    private static void swaps() {
        // Court 0 loves clocks, court 1 things, court 2 all alike.
        GiftsOfCourts x = Check.realm("511911;591111;555555", "020,00;220,01;210,02;010,00");
        // 0 and 1: both gain 32; 0 and 2: 14 and 10; 1 and 3: 34 and 14; 2 and 3: court 2 gains nothing.
        check.due("pairs", x, x.swaps(), 3, 0, 1, 36 - 4 + 36 - 4);
        check.due("none", Check.realm("555555;555555", "020,00;020,01").swaps(), 0);
        GiftsOfCourts same = Check.realm("511911;591111", "020,00;220,00");
        same.where(0);
        check.due("not of one court", same, same.swaps(), 0);
        GiftsOfCourts none = new GiftsOfCourts();
        none.months(1);
        check.due("nothing without", none, none.swaps(), 0);
    }

    private static void swapsTies() {
        GiftsOfCourts x = Check.realm("511911;591111", "020,00;220,01;020,00;220,01");
        check.due("the least row", x, x.swaps(), 4, 0, 1, 64);
        GiftsOfCourts y = Check.realm("511911;591111", "020,00;210,01;020,00;220,01");
        check.due("the most gain", y, y.swaps(), 4, 0, 3, 64);
        GiftsOfCourts z = Check.realm("555555;555555", "020,00;021,01");
        check.due("both must gain", z, z.swaps(), 0);
        Check.rule(z, "(r=s)*5");
        check.due("its own is worth more", z, z.swaps(), 0);
        GiftsOfCourts w = Check.realm("455555;555555", "020,00;021,01");
        Check.rule(w, "10-(r=s)*5");
        check.due("by the rule", w, w.swaps(), 1, 0, 1, 10);
        Check.rule(w, "r=s");
        check.due("none gains", w, w.swaps(), 0);
        Check.rule(w, "5-(r=s)");
        check.due("each gains 1", w, w.swaps(), 1, 0, 1, 2);
    }
}
