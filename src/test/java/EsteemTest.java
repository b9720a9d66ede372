/** Promises 32 and 33: ranks, league. */
final class EsteemTest {
    private static final Check check = new Check();

    public static void main(String[] args) {
        ranks();
        league();
        check.end();
    }

    private static void ranks() {
        GiftsOfCourts none = new GiftsOfCourts();
        check.due("no courts", none.ranks(), -2);
        check.due("nothing told", none.count(11), 0);
        GiftsOfCourts alone = Check.realm("555555", "");
        check.due("one", alone, alone.ranks(), 0, 0, 0);
        GiftsOfCourts x = Check.realm("555555;555555;555555;555555", "");
        check.due("all are equal", x, x.ranks(), 0, 0, 1, 2, 3, 30);
        x.envoy(0, 2, 3);
        check.due("2 is first", x, x.ranks(), 2, 2, 0, 1, 3, 33);
        x.envoy(0, 3, 4);
        x.envoy(1, 0, -9);
        check.due("3, 2, 1, 0", x, x.ranks(), 3, 3, 2, 1, 0, 34);
        x.envoy(2, 1, 4);
        check.due("of equal ones the first", x, x.ranks(), 1, 1, 3, 2, 0, 34);
        for (int c = 1; c < 4; c++) {
            x.envoy(c, 0, -9);
            x.envoy(c, 0, -9);
        }
        check.due("0 for 0", x, x.ranks(), 1, 1, 3, 2, 0, 34);
    }

    private static void league() {
        GiftsOfCourts none = new GiftsOfCourts();
        check.due("no courts", none, none.league(), 0, 0);
        GiftsOfCourts x = Check.realm("555555;555555;555555;555555;555555", "");
        check.due("one alone", x, x.league(), 1, 1);
        ally(x, 3, 4);
        check.due("two", x, x.league(), 2, 0b11000);
        ally(x, 1, 2);
        check.due("the least bits", x, x.league(), 2, 0b00110);
        ally(x, 2, 3);
        check.due("a chain is no league", x, x.league(), 2, 0b00110);
        ally(x, 2, 4);
        check.due("three", x, x.league(), 3, 0b11100);
        ally(x, 0, 1);
        ally(x, 0, 2);
        check.due("the least of three", x, x.league(), 3, 0b00111);
        x.envoy(2, 0, -9);
        check.due("not by one alone", x, x.league(), 3, 0b11100);
    }

    private static void ally(GiftsOfCourts x, int one, int other) {
        x.envoy(one, other, 5);
        x.envoy(other, one, 5);
    }
}
