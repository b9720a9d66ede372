/** Promises 24 to 26: way, walks, alive. */
final class RoadsTest {
    private static final Check check = new Check();
    private static final String SIX = "555555;555555;555555;555555;555555;555555";

    public static void main(String[] args) {
        way();
        wayTies();
        walks();
        walksRound();
        alive();
        check.end();
    }

    private static void way() {
        GiftsOfCourts x = Check.realm(SIX, "");
        int[][] wrong = {{-1, 0}, {0, -1}, {6, 0}, {0, 6}};
        for (int[] w : wrong) {
            check.due("none such", x.way(w[0], w[1]), -1);
        }
        check.due("no way", x.way(0, 5), -2);
        check.due("nothing told", x.count(11), 0);
        check.due("the same", x, x.way(4, 4), 0, 4);
        x.road(0, 1, 9);
        x.road(1, 2, 9);
        x.road(2, 3, 9);
        x.road(3, 4, 9);
        x.road(4, 5, 9);
        check.due("all along", x, x.way(0, 5), 45, 0, 1, 2, 3, 4, 5);
        check.due("and back", x, x.way(5, 0), 45, 5, 4, 3, 2, 1, 0);
        x.road(0, 4, 8);
        check.due("shorter", x, x.way(0, 5), 17, 0, 4, 5);
        x.road(3, 4, 0);
        check.due("round", x, x.way(4, 3), 35, 4, 0, 1, 2, 3);
        check.due("the same still", x, x.way(4, 4), 0, 4);
    }

    private static void wayTies() {
        GiftsOfCourts x = Check.realm(SIX, "");
        x.road(0, 5, 4);
        x.road(0, 3, 2);
        x.road(3, 5, 2);
        check.due("the least row", x, x.way(0, 5), 4, 0, 3, 5);
        x.road(0, 2, 1);
        x.road(2, 5, 3);
        check.due("a lesser one", x, x.way(0, 5), 4, 0, 2, 5);
        x.road(2, 1, 1);
        x.road(1, 5, 2);
        check.due("a lesser one with more courts", x, x.way(0, 5), 4, 0, 2, 1, 5);
        check.due("the other way round", x, x.way(5, 0), 4, 5, 0);
    }

    private static void walks() {
        GiftsOfCourts x = Check.realm(SIX, "");
        x.road(0, 1, 3);
        x.road(1, 2, 2);
        x.road(0, 2, 9);
        int[][] wrong = {{-1, 0, 1, 1}, {0, 6, 1, 1}, {0, 1, -1, 1}, {0, 1, 10, 1}, {0, 1, 1, -1}, {0, 1, 1, 100}};
        for (int[] w : wrong) {
            check.due("others", x.walks(w[0], w[1], w[2], w[3]), -1);
        }
        check.due("the same", x.walks(0, 0, 9, 0), 0);
        check.due("just enough", x.walks(0, 2, 5, 15), 5);
        check.due("one too little", x.walks(0, 2, 5, 14), -2);
        check.due("eats nothing", x.walks(0, 2, 0, 0), 5);
        check.due("eats without grain", x.walks(0, 2, 1, 0), -2);
        check.due("no way", x.walks(0, 3, 0, 99), -2);
        check.due("much", x.walks(0, 1, 9, 99), 3);
        check.due("nothing told", x.count(11), 0);
    }

    /** To and fro on a short road it gathers what a long one needs. */
    private static void walksRound() {
        GiftsOfCourts x = Check.realm(SIX, "");
        x.road(0, 1, 1);
        x.road(0, 2, 9);
        // It has 10 in 0 and each month 10 - 5 more; 45 are needed in 0: 10 + 5 * m with m even, so m is 8.
        check.due("to and fro", x.walks(0, 2, 5, 10), 17);
        // Each month 1 more: 9 * 9 = 81 in court 0 after 71 months (72: even).
        check.due("long", x.walks(0, 2, 9, 10), 81);
        check.due("no gain", x.walks(0, 2, 9, 9), -2);
        x.road(2, 3, 9);
        // In 2 it has 82 - 81 + 10 = 11, or more the longer it gathered; 99 months are the end of it.
        check.due("not in 99", x.walks(0, 3, 9, 10), -2);
        GiftsOfCourts y = Check.realm(SIX, "");
        y.road(0, 1, 9);
        y.road(1, 2, 9);
        y.road(2, 3, 9);
        y.road(3, 4, 9);
        y.road(4, 5, 9);
        check.due("all along", y.walks(0, 5, 1, 9), 45);
        check.due("not so", y.walks(0, 5, 1, 8), -2);
        GiftsOfCourts z = Check.realm("555555;555555;555555", "");
        z.road(0, 1, 1);
        z.road(1, 2, 9);
        // In court 1 it has 3 + m in odd months m; 18 are needed: 15 months, and 9 more.
        check.due("from the other end", z.walks(0, 2, 2, 3), 24);
    }

    private static void alive() {
        GiftsOfCourts x = Check.realm(SIX, "");
        x.road(0, 1, 3);
        x.road(1, 2, 9);
        x.road(2, 3, 1);
        int[][] wrong = {{-1, 0, 5}, {0, 6, 5}, {0, 1, -1}, {0, 1, 11}, {0, 4, 11}, {1, 1, 5}};
        for (int[] w : wrong) {
            check.due("others", x.alive(w[0], w[1], w[2]), -1);
        }
        check.due("no way", x.alive(0, 4, 5), -2);
        check.due("more than 12", x.alive(0, 3, 5), -2);
        check.due("nothing told", x.count(11), 0);
        check.due("lowest terms", x, x.alive(0, 1, 5), 0, 1, 8);
        check.due("seven tenths", x, x.alive(0, 1, 3), 0, 343, 1000);
        check.due("two tenths", x, x.alive(0, 1, 8), 0, 1, 125);
        check.due("surely", x, x.alive(0, 1, 0), 0, 1, 1);
        check.due("never", x, x.alive(0, 1, 10), 0, 0, 1);
        check.due("12 months", x, x.alive(0, 2, 1), 0, 282429536481L, 1000000000000L);
        check.due("12 months of four fifths", x, x.alive(0, 2, 2), 0, 16777216L, 244140625L);
        check.due("12 months, never", x, x.alive(2, 0, 10), 0, 0, 1);
        x.road(0, 2, 1);
        check.due("over the fewest", x, x.alive(0, 3, 1), 0, 81, 100);
    }
}
