/** The boundary cases of promises 34 to 37, 39 and 40; those of law() stand in RuleBoundsTest. */
final class CluesBoundsTest {
    private static final Check check = new Check();
    private static final int MIN = Integer.MIN_VALUE;
    private static final int MAX = Integer.MAX_VALUE;

    public static void main(String[] args) {
        heardRanges();
        heardOthers();
        heardTwelve();
        forgetNone();
        fitsWorthOrMore();
        fitsHadAndDead();
        fitsAllAndNone();
        askEqualOnes();
        askInVain();
        restsRange();
        restsTwiceAsMuch();
        yearsRange();
        yearsWithoutGifts();
        yearsIfThatHasItNot();
        yearsOfMonths();
        yearsAsInts();
        check.end();
    }

    /** Promise 34: "KIND is v (0 .. 4)", "WORTH is v (1 .. 99)", "court v (0 .. 5)", "(v 1) or not (0)". */
    private static void heardRanges() {
        int[][] ranges = {{0, 0, 4}, {1, 1, 99}, {2, 0, 5}, {3, 0, 1}};
        for (int[] range : ranges) {
            for (int v = -3; v <= 103; v++) {
                int asked = v;
                if (v >= range[1] && v <= range[2]) {
                    GiftsOfCourts x = new GiftsOfCourts();
                    check.due("heard(" + range[0] + ", " + v + ")", x.heard(range[0], v), 1);
                    check.due("count(9)", x.count(9), 1);
                } else {
                    check.refused("heard(" + range[0] + ", " + v + ")", Check::busy, x -> x.heard(range[0], asked), -1);
                }
            }
            check.refused("v min", Check::busy, x -> x.heard(range[0], MIN), -1);
            check.refused("v max", Check::busy, x -> x.heard(range[0], MAX), -1);
        }
    }

    /** Promise 34: "Refused: others". */
    private static void heardOthers() {
        for (int what : new int[] {MIN, -1, 4, 5, MAX}) {
            for (int v : new int[] {0, 1}) {
                check.refused("heard(" + what + ", " + v + ")", Check::busy, x -> x.heard(what, v), -1);
            }
        }
    }

    /** Promise 34: "Refused: .. 12": so many are there. */
    private static void heardTwelve() {
        GiftsOfCourts x = new GiftsOfCourts();
        for (int i = 1; i <= 12; i++) {
            check.due("heard", x.heard(1, i), i);
        }
        check.due("one more", x.heard(1, 1), -1);
        check.refused("one more", CluesBoundsTest::twelve, y -> y.heard(0, 1), -1);
        GiftsOfCourts full = twelve();
        check.due("forgotten", full.forget(), 12);
        check.due("room again", full.heard(0, 1), 1);
    }

    private static GiftsOfCourts twelve() {
        GiftsOfCourts x = Check.busy();
        x.forget();
        for (int i = 0; i < 12; i++) {
            x.heard(3, 0);
        }
        return x;
    }

    /** Promise 35: "It is forgotten: how many there were." */
    private static void forgetNone() {
        GiftsOfCourts x = Check.busy();
        check.due("one", x.forget(), 1);
        check.due("none", x.forget(), 0);
        check.due("count(9)", x.count(9), 0);
        check.due("all fit", x.fits(), 7);
        check.due("of a new object", new GiftsOfCourts().forget(), 0);
    }

    /** Promise 34: "WORTH is v or more"; and KIND is v, no other one. */
    private static void fitsWorthOrMore() {
        for (int v = 1; v <= 99; v++) {
            GiftsOfCourts x = Check.alike(1, "01,00;050,00;099,00");
            x.heard(1, v);
            int due = (v <= 1 ? 1 : 0) + (v <= 50 ? 2 : 0) + 4;
            check.due("worth " + v + " or more", x, x.fits(), due, Integer.bitCount(due),
                    (v <= 1 ? 1 : 0) + (v <= 50 ? 50 : 0) + 99);
        }
        for (int v = 0; v <= 4; v++) {
            GiftsOfCourts x = Check.alike(1, "01,00;12,00;23,00;34,00;45,00");
            x.heard(0, v);
            check.due("kind " + v, x, x.fits(), 1 << v, 1, v + 1);
        }
    }

    /** Promise 34: "court v HAD it", "it is DEAD (v 1) or not (0)". */
    private static void fitsHadAndDead() {
        for (int v = 0; v <= 5; v++) {
            GiftsOfCourts x = Check.alike(3, "01,00;02,01;04,02");
            x.send(0, 1);
            x.heard(2, v);
            int[] due = {0b001, 0b011, 0b100, 0, 0, 0};
            check.due("court " + v + " had it", x, x.fits(), due[v], Integer.bitCount(due[v]), due[v]);
        }
        for (int v = 0; v <= 1; v++) {
            GiftsOfCourts x = Check.busy();
            x.forget();
            x.heard(3, v);
            check.due("dead: " + v, x, x.fits(), v == 1 ? 0b001 : 0b110, v == 1 ? 1 : 2, v == 1 ? 20 : 40);
        }
    }

    /** Promise 36: "that fit all that was heard": nothing heard, and what none fits; no GIFTS, and eight. */
    private static void fitsAllAndNone() {
        GiftsOfCourts none = new GiftsOfCourts();
        check.due("no gifts", none, none.fits(), 0, 0, 0);
        GiftsOfCourts x = Check.alike(1, Check.lines("099,00", 8));
        check.due("eight", x, x.fits(), 255, 8, 792);
        x.heard(1, 99);
        check.due("eight still", x, x.fits(), 255, 8, 792);
        x.heard(0, 1);
        check.due("none", x, x.fits(), 0, 0, 0);
        // The twelfth counts as the first does.
        GiftsOfCourts last = Check.alike(1, "05,00;06,00");
        for (int i = 0; i < 11; i++) {
            last.heard(0, 0);
        }
        check.due("eleven", last.fits(), 3);
        last.heard(1, 6);
        check.due("and the twelfth", last, last.fits(), 2, 1, 6);
    }

    /** Promise 37: "the fewest such GIFTS are left at most; of equal ones the first". */
    private static void askEqualOnes() {
        GiftsOfCourts x = Check.alike(3, "01,01;01,01;01,02;01,02");
        check.due("1 and 2 part them alike", x, x.ask(), 1, 2);
        GiftsOfCourts halves = Check.alike(2, "01,01;01,01;01,00;01,00");
        check.due("0 and 1 part them alike", halves, halves.ask(), 0, 2);
        GiftsOfCourts none = Check.alike(3, "01,02");
        check.due("one gift: 1 by each", none, none.ask(), 0, 1);
        GiftsOfCourts eight = Check.alike(6, Check.lines("01,05", 8));
        check.due("eight by each", eight, eight.ask(), 0, 8);
        GiftsOfCourts odd = Check.alike(3, "01,00;01,01;01,01;01,01;01,02");
        check.due("3 and 2 by 1", odd, odd.ask(), 1, 3);
        GiftsOfCourts most = Check.alike(2, "01,00;01,00;01,00;01,01");
        check.due("3 at most, had or not", most, most.ask(), 0, 3);
        most.send(3, 0);
        // 0 had all four, 1 had one.
        check.due("4 by 0, 3 by 1", most, most.ask(), 1, 3);
    }

    /** Promise 37: "-2: none fits, or there are no courts". */
    private static void askInVain() {
        check.refused("no courts", GiftsOfCourts::new, GiftsOfCourts::ask, -2);
        check.refused("no gifts", () -> Check.alike(2, ""), GiftsOfCourts::ask, -2);
        check.refused("none fits", CluesBoundsTest::noneFits, GiftsOfCourts::ask, -2);
        GiftsOfCourts x = noneFits();
        x.forget();
        check.due("all fit then", x.ask() >= 0, true);
        GiftsOfCourts one = Check.alike(1, "05,00");
        check.due("one court, one gift", one, one.ask(), 0, 1);
    }

    private static GiftsOfCourts noneFits() {
        GiftsOfCourts x = Check.busy();
        x.heard(1, 31);
        return x;
    }

    /** Promise 39: "v (0 .. 20)", "NONE: another v". */
    private static void restsRange() {
        for (int v : new int[] {MIN, -1, 21, MAX}) {
            check.refused("rests(" + v + ")", Check::busy, x -> x.rests(v), -1);
        }
        for (int v = 0; v <= 20; v++) {
            GiftsOfCourts x = Check.busy();
            int pairs = x.rests(v);
            check.due("pairs by " + v, pairs >= 0, true);
            check.due("numbers by " + v, x.count(11), pairs == 0 ? 0 : 2);
        }
        check.due("none to gain by 0", new GiftsOfCourts().rests(0), 1);
    }

    /** Promise 39: "who sends more than twice as much as the other one 3 more", "half of it (cut)", "(nothing without)". */
    private static void restsTwiceAsMuch() {
        for (int v = 0; v <= 20; v++) {
            GiftsOfCourts x = new GiftsOfCourts();
            x.settle();
            int found = 0;
            long[] least = {};
            for (int pair = 99; pair >= 0; pair--) {
                int one = pair / 10;
                int other = pair % 10;
                boolean rests = true;
                for (int another = 0; another < 10; another++) {
                    rests &= had(v, another, other) <= had(v, one, other) && had(v, another, one) <= had(v, other, one);
                }
                found += rests ? 1 : 0;
                least = rests ? new long[] {one, other} : least;
            }
            check.due("rests(" + v + ")", x, x.rests(v), found, least);
        }
    }

    private static int had(int v, int sends, int other) {
        int has = 0;
        if (sends == other) {
            has = v / 2;
        } else if (sends > other) {
            has = v;
        }
        return sends - other > other ? has - sends - 3 : has - sends;
    }

    /** Promise 40: "n times (1 .. 60)", "NONE: another n". */
    private static void yearsRange() {
        for (int n : new int[] {MIN, -1, 0, 61, 62, MAX}) {
            check.refused("years(1, " + n + ")", Check::busy, x -> x.years(1, n), -1);
        }
        for (int n = 1; n <= 60; n++) {
            int times = n;
            GiftsOfCourts x = Check.busy();
            long[] due = acted(Check.busy(), 7, n);
            check.due("years(7, " + n + ")", x, x.years(7, n), due[0], due[1], due[2]);
            check.question("years(7, " + n + ")", Check::busy, y -> y.years(7, times));
        }
    }

    /** Promise 40: "(no DRAWS without GIFTS)": a DRAW of 3 is the only one each time. */
    private static void yearsWithoutGifts() {
        GiftsOfCourts none = new GiftsOfCourts();
        check.due("no courts", none, none.years(5, 60), 0, 0, 0);
        for (int n = 1; n <= 60; n++) {
            GiftsOfCourts x = Check.alike(3, "");
            check.due("no gifts", x, x.years(n, n), 0, 0, 60);
        }
    }

    /** Promise 40: "to which it is sent, if that has it not". */
    private static void yearsIfThatHasItNot() {
        GiftsOfCourts alone = Check.alike(1, "05,00");
        check.due("it has it always", alone, alone.years(1, 60), 0, 0, 0);
        for (int seed = 0; seed < 20; seed++) {
            GiftsOfCourts x = Check.alike(2, "05,00");
            long[] due = acted(Check.alike(2, "05,00"), seed, 20);
            check.due("seed " + seed, x, x.years(seed, 20), due[0], due[1], due[2]);
        }
    }

    /** Promise 40: "0: a MONTH", of six courts and eight beasts that starve. */
    private static void yearsOfMonths() {
        int most = 0;
        for (int seed = 0; seed < 40; seed++) {
            GiftsOfCourts x = starving();
            long[] due = acted(starving(), seed, 30);
            check.due("seed " + seed, x, x.years(seed, 30), due[0], due[1], due[2]);
            most = Math.max(most, (int) due[1]);
        }
        check.due("some starved", most > 2, true);
    }

    private static GiftsOfCourts starving() {
        GiftsOfCourts x = Check.realm(Check.lines("155555", 6), Check.lines("19,75", 8));
        x.sheet(2, 6, 5, 2);
        return x;
    }

    /** Promise 40: "(as ints; R is seed at first), (R without sign, by 65536) % n". */
    private static void yearsAsInts() {
        for (int seed : new int[] {0, 1, -1, MIN, MAX, 65535, 65536, -65536, 1 << 30}) {
            GiftsOfCourts x = Check.busy();
            long[] due = acted(Check.busy(), seed, 60);
            check.due("seed " + seed, x, x.years(seed, 60), due[0], due[1], due[2]);
        }
    }

    /** The same draws, done by acts: how many were sent, how many are dead, all esteem. */
    private static long[] acted(GiftsOfCourts x, int seed, int n) {
        long r = seed;
        int sent = 0;
        for (int i = 0; i < n; i++) {
            r = next(r);
            if (draw(r, 3) == 0) {
                x.months(1);
            } else if (x.count(1) > 0) {
                r = next(r);
                int gift = draw(r, x.count(1));
                r = next(r);
                sent += x.send(gift, draw(r, x.count(0))) >= 0 ? 1 : 0;
            }
        }
        int esteem = 0;
        for (int one = 0; one < x.count(0); one++) {
            for (int other = 0; other < x.count(0); other++) {
                esteem += one == other ? 0 : x.between(one, other, 0);
            }
        }
        return new long[] {sent, Integer.bitCount(x.count(4)), esteem};
    }

    private static long next(long r) {
        return r * 1103515245L + 12345L & 0xFFFFFFFFL;
    }

    private static int draw(long r, int n) {
        return (int) (r / 65536 % n);
    }
}
