/** Promises 29 to 31: net, settle, ring. */
final class DebtsTest {
    private static final Check check = new Check();
    private static final String SIX = "555555;555555;555555;555555;555555;555555";

    public static void main(String[] args) {
        net();
        settle();
        settleGroups();
        ring();
        ringTies();
        check.end();
    }

    /** By taste 5 a gift of worth w makes a due of w. */
    private static void net() {
        GiftsOfCourts x = Check.realm("555555;555555;555555", "020,00;030,00;007,01");
        check.due("none such", x.net(3), -100000);
        check.due("none such", x.net(-1), -100000);
        check.due("nothing told", x.count(11), 0);
        check.due("nothing", x, x.net(0), 0, 0, 0);
        x.send(0, 1);
        x.send(1, 2);
        x.send(2, 2);
        check.due("owed to 0", x, x.net(0), 50, 50, 0);
        check.due("both", x, x.net(1), 7 - 20, 7, 20);
        check.due("owes", x, x.net(2), -37, 0, 37);
        check.due("nothing changes", x.count(7), 57);
    }

    private static void settle() {
        GiftsOfCourts none = new GiftsOfCourts();
        check.due("no courts", none, none.settle(), 0, 0);
        GiftsOfCourts x = Check.realm(SIX, "020,00;020,01;020,02;030,03;030,04");
        check.due("no dues", x, x.settle(), 0, 0);
        x.send(0, 1);
        check.due("one", x, x.settle(), 1, 2);
        x.send(1, 2);
        check.due("1 is even", x, x.settle(), 1, 2);
        x.send(2, 0);
        check.due("all are even", x, x.settle(), 0, 0);
        x.send(3, 4);
        check.due("two of them", x, x.settle(), 1, 2);
        x.send(4, 5);
        check.due("on to 5", x, x.settle(), 1, 2);
    }

    private static void settleGroups() {
        // 1 owes 5 to 0, 2 owes 7 to 3, 4 owes 9 to 5: three payments.
        GiftsOfCourts x = Check.realm(SIX, "05,00;07,03;09,05");
        x.send(0, 1);
        x.send(1, 2);
        x.send(2, 4);
        check.due("three pairs", x, x.settle(), 3, 6);
        // Nets 1, 2, 4, 8, 16 and -31: no group but all of them.
        GiftsOfCourts y = Check.realm(SIX, "01,00;02,01;04,02;08,03;016,04");
        y.send(0, 5);
        y.send(1, 5);
        y.send(2, 5);
        y.send(3, 5);
        y.send(4, 5);
        check.due("all of them", y, y.settle(), 5, 6);
        // Nets 5, 5, 4, -7, -3, -4: {2, 5} and the rest.
        GiftsOfCourts z = Check.realm(SIX, "05,00;02,01;03,01;04,02");
        z.send(0, 3);
        z.send(1, 3);
        z.send(2, 4);
        z.send(3, 5);
        check.due("a pair and a four", z, z.settle(), 4, 6);
        // Nets 5, 3, 2, -5, -5: {0, 3} and {1, 2, 4}.
        GiftsOfCourts w = Check.realm(SIX, "05,00;03,01;02,02");
        w.send(0, 3);
        w.send(1, 4);
        w.send(2, 4);
        check.due("a pair and a three", w, w.settle(), 3, 5);
        // Nets 7, 3, -6, -4.
        GiftsOfCourts v = Check.realm(SIX, "06,00;01,00;03,01");
        v.send(0, 2);
        v.send(1, 3);
        v.send(2, 3);
        check.due("four that do not part", v, v.settle(), 3, 4);
    }

    private static void ring() {
        GiftsOfCourts x = Check.realm(SIX, "020,00;030,01;010,02;05,03;05,00");
        check.due("none", x.ring(), -2);
        x.send(0, 1);
        x.send(1, 2);
        check.due("a chain is none", x.ring(), -2);
        check.row("the row of send stays", x, 30, 0);
        x.send(2, 3);
        x.send(3, 0);
        // 1 owes to 0, 2 to 1, 3 to 2, 0 to 3: 0 owes to 3, 3 to 2, 2 to 1, 1 to 0.
        check.due("four", x, x.ring(), 4, 0, 3, 2, 1, 5);
        check.due("none such", new GiftsOfCourts().ring(), -2);
        // 0 owes to 3; 2 owes to 0 then: 0, 3, 2 are three.
        x.send(4, 2);
        check.due("a shorter one", x, x.ring(), 3, 0, 3, 2, 5);
        x.forgive(0, 3);
        check.due("0 owes nothing", x.ring(), -2);
        check.row("the row stays", x, 0, 3, 2, 5);
    }

    private static void ringTies() {
        // 0 owes to 3, 3 to 4, 4 to 0; then 0 to 2, 2 to 5, 5 to 0; then 2 to 1, 1 to 0.
        GiftsOfCourts x = Check.realm(SIX, "09,03;08,04;07,00;06,02;05,05;04,00;03,01;02,00");
        x.send(0, 0);
        x.send(1, 3);
        x.send(2, 4);
        check.due("one", x, x.ring(), 3, 0, 3, 4, 7);
        x.send(3, 0);
        x.send(4, 2);
        x.send(5, 5);
        check.due("a lesser one", x, x.ring(), 3, 0, 2, 5, 4);
        x.send(6, 2);
        x.send(7, 1);
        check.due("one more", x, x.ring(), 3, 0, 2, 1, 2);
        GiftsOfCourts y = Check.realm(SIX, "09,03;08,04;07,05");
        y.send(0, 5);
        y.send(1, 3);
        y.send(2, 4);
        check.due("from the least one on", y, y.ring(), 3, 3, 4, 5, 7);
        GiftsOfCourts z = Check.realm(SIX, "09,00;08,01;07,02;06,03;05,04;04,05");
        for (int g = 0; g < 6; g++) {
            z.send(g, (g + 5) % 6);
        }
        check.due("all of them", z, z.ring(), 6, 0, 1, 2, 3, 4, 5, 4);
    }
}
