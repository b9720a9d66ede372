/** Promises 39 and 40: rests, years. */
final class RestsTest {
    private static final Check check = new Check();

    public static void main(String[] args) {
        rests();
        restsByTables();
        years();
        yearsChangeNothing();
        check.end();
    }

    private static void rests() {
        GiftsOfCourts x = new GiftsOfCourts();
        check.due("another v", x.rests(-1), -1);
        check.due("another v", x.rests(21), -1);
        check.due("nothing told", x.count(11), 0);
        check.due("0", x, x.rests(0), 1, 0, 0);
        // From (0, 0) both have 4, and who sends 1 alone has 8 - 1 - 3.
        x.rests(8);
        check.row("the least of 8", x, 0, 0);
    }

    /** All tables of gains, and the pairs in which none of ten rows or columns is better. */
    private static void restsByTables() {
        GiftsOfCourts x = new GiftsOfCourts();
        for (int v = 0; v <= 20; v++) {
            int[][] gain = new int[10][10];
            for (int x1 = 0; x1 < 10; x1++) {
                for (int y1 = 0; y1 < 10; y1++) {
                    int had = x1 > y1 ? v : 0;
                    if (x1 == y1) {
                        had = v / 2;
                    }
                    gain[x1][y1] = had - x1 - (x1 > y1 + y1 ? 3 : 0);
                }
            }
            int found = 0;
            long[] least = {};
            for (int one = 9; one >= 0; one--) {
                for (int other = 9; other >= 0; other--) {
                    if (isMost(gain, one, other) && isMost(gain, other, one)) {
                        found++;
                        least = new long[] {one, other};
                    }
                }
            }
            check.due("rests(" + v + ")", x, x.rests(v), found, least);
        }
    }

    private static boolean isMost(int[][] gain, int one, int other) {
        boolean most = true;
        for (int[] row : gain) {
            most = most && row[other] <= gain[one][other];
        }
        return most;
    }

    private static void years() {
        GiftsOfCourts none = new GiftsOfCourts();
        check.due("0 times", none.years(1, 0), -1);
        check.due("61 times", none.years(1, 61), -1);
        check.due("nothing told", none.count(11), 0);
        check.due("no courts", none, none.years(1, 60), 0, 0, 0);
        GiftsOfCourts bare = Check.realm("555555;555555", "");
        check.due("no gifts", bare, bare.years(7, 60), 0, 0, 20);
        GiftsOfCourts one = Check.realm("155555;555555", "120,90");
        byActs(one, 3, 60);
        byActs(one, 4, 60);
        GiftsOfCourts x = Check.realm("255555;555555;555555", "120,90;030,01;410,82");
        for (int seed : new int[] {0, 1, 2, -1, 12345, Integer.MAX_VALUE, Integer.MIN_VALUE, 99}) {
            for (int n : new int[] {1, 2, 3, 10, 33, 60}) {
                byActs(x, seed, n);
            }
        }
    }

    /** The same draws, done by send() and months() and taken back by again(). */
    private static void byActs(GiftsOfCourts x, int seed, int n) {
        int sent = x.years(seed, n);
        long[] told = Check.rowOf(x);
        x.keep(0);
        long r = seed;
        int done = 0;
        for (int i = 0; i < n; i++) {
            r = next(r);
            if (drawn(r, 3) == 0) {
                x.months(1);
            } else {
                r = next(r);
                int gift = drawn(r, x.count(1));
                r = next(r);
                int court = drawn(r, x.count(0));
                done += x.send(gift, court) >= 0 ? 1 : 0;
            }
        }
        int esteem = 0;
        for (int one = 0; one < x.count(0); one++) {
            for (int other = 0; other < x.count(0); other++) {
                esteem += one == other ? 0 : x.between(one, other, 0);
            }
        }
        check.due("years(" + seed + ", " + n + ")", sent, done);
        check.due("numbers told", told.length, 2);
        check.due("dead then", told[0], Integer.bitCount(x.count(4)));
        check.due("esteem then", told[1], esteem);
        x.again(0);
    }

    private static long next(long r) {
        return (int) (r * 1103515245L + 12345L);
    }

    private static int drawn(long r, int n) {
        return (int) ((r & 0xFFFFFFFFL) / 65536 % n);
    }

    private static void yearsChangeNothing() {
        GiftsOfCourts x = Check.realm("255555;555555;555555", "120,90;030,01;410,82");
        x.months(1);
        x.years(5, 60);
        check.due("month", x.count(2), 1);
        check.due("gifts", x.court(0, 2) * 100 + x.court(1, 2) * 10 + x.court(2, 2), 124);
        check.due("dues", x.count(7), 0);
        check.due("what can be undone", x.count(10), 1);
    }
}
