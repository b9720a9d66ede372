/** The boundary cases of promises 24 to 28. */
final class RoadsBoundsTest {
    private static final Check check = new Check();
    private static final int MIN = Integer.MIN_VALUE;
    private static final int MAX = Integer.MAX_VALUE;

    public static void main(String[] args) {
        wayTheSame();
        wayLongest();
        wayLeastRow();
        wayNone();
        wayNoneSuch();
        walksTheSame();
        walksHasWhatItEats();
        walksTakesMore();
        walksOfSix();
        walksNotIn99();
        walksOthers();
        aliveTenths();
        aliveLowestTerms();
        aliveMoreThan12();
        aliveNoWay();
        aliveOthers();
        feedsMonths();
        feedsTheFirst();
        feedsNone();
        feedsNoneSuch();
        starvesAliveOfKinds();
        starvesEqualOnes();
        starvesNone();
        starvesNoneSuch();
        check.end();
    }

    /** Six courts in a row, with a road of n months from each to the next one. */
    private static GiftsOfCourts chain(int n) {
        GiftsOfCourts x = Check.alike(6, "");
        for (int c = 0; c < 5; c++) {
            x.road(c, c + 1, n);
        }
        x.league();
        return x;
    }

    /** Promise 24: "to another one, or the same". */
    private static void wayTheSame() {
        for (int c = 0; c < 6; c++) {
            GiftsOfCourts x = chain(1);
            check.due("to the same", x, x.way(c, c), 0, c);
            GiftsOfCourts bare = Check.alike(6, "");
            check.due("to the same without roads", bare, bare.way(c, c), 0, c);
        }
    }

    /** Promise 24: "the courts in turn, both too": two at least, six at most. */
    private static void wayLongest() {
        GiftsOfCourts x = chain(9);
        check.due("one road", x, x.way(4, 5), 9, 4, 5);
        check.due("all roads", x, x.way(0, 5), 45, 0, 1, 2, 3, 4, 5);
        x.road(0, 5, 9);
        check.due("the other way round", x, x.way(0, 5), 9, 0, 5);
        GiftsOfCourts least = chain(1);
        check.due("the least months", least, least.way(0, 5), 5, 0, 1, 2, 3, 4, 5);
        least.road(0, 5, 5);
        check.due("as short: the least row", least, least.way(0, 5), 5, 0, 1, 2, 3, 4, 5);
        least.road(0, 5, 4);
        check.due("one shorter", least, least.way(0, 5), 4, 0, 5);
    }

    /** Promise 24: "of as short ones the least row". */
    private static void wayLeastRow() {
        GiftsOfCourts x = Check.alike(6, "");
        x.road(0, 5, 3);
        check.due("at once", x, x.way(0, 5), 3, 0, 5);
        x.road(0, 4, 1);
        x.road(4, 5, 2);
        check.due("by 4", x, x.way(0, 5), 3, 0, 4, 5);
        x.road(4, 3, 1);
        x.road(3, 5, 1);
        check.due("by 4 and 3", x, x.way(0, 5), 3, 0, 4, 3, 5);
        x.road(0, 1, 2);
        x.road(1, 5, 1);
        check.due("by 1", x, x.way(0, 5), 3, 0, 1, 5);
        check.due("and back the end itself", x, x.way(5, 0), 3, 5, 0);
    }

    /** Promise 24: "-2: there is no way". */
    private static void wayNone() {
        check.refused("from 2 to 0", Check::busy, x -> x.way(2, 0), -2);
        check.refused("from 0 to 2", Check::busy, x -> x.way(0, 2), -2);
        GiftsOfCourts x = chain(9);
        check.due("there is one", x.way(0, 5), 45);
        x.road(2, 3, 0);
        check.due("there was one", x.way(0, 5), -2);
        check.row("the row stays", x, 0, 1, 2, 3, 4, 5);
    }

    /** Promise 24: "NONE: none such." */
    private static void wayNoneSuch() {
        int[][] wrong = {{-1, 0}, {0, -1}, {3, 0}, {0, 3}, {3, 3}, {-1, -1}, {MIN, 0}, {0, MAX}};
        for (int[] w : wrong) {
            check.refused("way(" + w[0] + ", " + w[1] + ")", Check::busy, x -> x.way(w[0], w[1]), -1);
        }
        check.due("no courts", new GiftsOfCourts().way(0, 0), -1);
    }

    /** Promise 25: "or the same (0 MONTHS)". */
    private static void walksTheSame() {
        for (int e = 0; e <= 9; e++) {
            check.due("the same, eats " + e, chain(1).walks(3, 3, e, 0), 0);
            check.due("the same without roads", Check.alike(2, "").walks(1, 1, e, 0), 0);
        }
    }

    /** Promise 25: "it can go on a ROAD only if it has what it eats on it". */
    private static void walksHasWhatItEats() {
        for (int e = 0; e <= 9; e++) {
            for (int months = 1; months <= 9; months++) {
                GiftsOfCourts x = Check.alike(2, "");
                x.road(0, 1, months);
                int needs = e * months;
                check.due("just enough", x.walks(0, 1, e, needs), months);
                if (needs > 0) {
                    check.due("one too little", x.walks(0, 1, e, needs - 1), -2);
                }
            }
        }
    }

    /** Promise 25: "in the court where it begins and in each to which it comes (also once more) it takes g .. more". */
    private static void walksTakesMore() {
        GiftsOfCourts x = Check.alike(4, "");
        x.road(0, 1, 2);
        x.road(1, 2, 4);
        // It begins with g and has g less 2 e in court 1, and g more; 4 e are needed there: 2 g must be 6 e or more.
        check.due("6 and 6 are 12", x.walks(0, 2, 2, 6), 6);
        check.due("5 and 5, and more to and fro", x.walks(0, 2, 2, 5), 10);
        check.due("4 and 4, and never more", x.walks(0, 2, 2, 4), -2);
        check.due("it takes nothing", x.walks(0, 2, 2, 0), -2);
        check.due("it needs nothing", x.walks(0, 2, 0, 0), 6);
    }

    /** Promise 25, over all of six courts, to and fro, and from each one. */
    private static void walksOfSix() {
        GiftsOfCourts x = chain(2);
        for (int from = 0; from < 6; from++) {
            for (int to = 0; to < 6; to++) {
                int months = 2 * Math.abs(from - to);
                check.due("from " + from + " to " + to, x.walks(from, to, 3, 6), months);
                check.due("too little, from " + from + " to " + to, x.walks(from, to, 3, 5), from == to ? 0 : -2);
            }
        }
        x.road(4, 5, 9);
        // In court 4 it has 16 behind 8 months, and 2 more by each road of 2 months; 27 are needed, so six roads more.
        check.due("to and fro ahead of the last road", x.walks(0, 5, 3, 8), 8 + 12 + 9);
        check.due("and back, too little at once", x.walks(5, 0, 3, 8), -2);
    }

    /** Promise 25: "-2: not in 99". */
    private static void walksNotIn99() {
        // It gathers 1 a month between 0 and 1, goes on to 2, gathers between 2 and 3, and goes on to 4.
        GiftsOfCourts x = Check.alike(5, "");
        x.road(0, 1, 1);
        x.road(0, 2, 9);
        x.road(2, 3, 1);
        x.road(2, 4, 4);
        // 9 + 64 - 72 + 9 = 10 in the 73rd, 32 in the 95th.
        check.due("in 99", x.walks(0, 4, 8, 9), 99);
        x.road(2, 4, 3);
        check.due("in 90", x.walks(0, 4, 8, 9), 90);
        // 10 + 72 - 81 + 10 = 11 in the 81st, 27 in the 97th.
        check.due("not in 99, but in 100", x.walks(0, 4, 9, 10), -2);
        x.road(2, 4, 2);
        check.due("in 91", x.walks(0, 4, 9, 10), 91);
        check.due("from another one", x.walks(1, 0, 9, 10), 1);
        check.due("from the first one again", x.walks(0, 1, 9, 10), 1);
        x.road(2, 4, 0);
        check.due("no way", x.walks(0, 4, 0, 99), -2);
        check.refused("no way", Check::busy, y -> y.walks(0, 2, 0, 99), -2);
    }

    /** Promise 25: "e (0 .. 9)", "g (0 .. 99)", "NONE: others, none such". */
    private static void walksOthers() {
        for (int e : new int[] {MIN, -1, 10, MAX}) {
            check.refused("e " + e, Check::busy, x -> x.walks(0, 1, e, 50), -1);
            check.refused("e " + e + " to the same", Check::busy, x -> x.walks(0, 0, e, 50), -1);
        }
        for (int g : new int[] {MIN, -1, 100, MAX}) {
            check.refused("g " + g, Check::busy, x -> x.walks(0, 1, 1, g), -1);
            check.refused("g " + g + " to the same", Check::busy, x -> x.walks(0, 0, 1, g), -1);
        }
        int[][] wrong = {{-1, 0}, {0, -1}, {3, 0}, {0, 3}, {3, 3}, {-1, -1}, {MIN, 0}, {0, MAX}};
        for (int[] w : wrong) {
            check.refused("walks(" + w[0] + ", " + w[1] + ")", Check::busy, x -> x.walks(w[0], w[1], 1, 9), -1);
        }
        check.due("the most of both", Check.busy().walks(0, 1, 9, 99), 4);
        check.due("the least of both", Check.busy().walks(0, 1, 0, 0), 4);
        check.question("walks", Check::busy, x -> x.walks(0, 1, 9, 99));
    }

    /** Promise 26: "p tenths (0 .. 10)". */
    private static void aliveTenths() {
        long[][] lives = {{1, 1}, {9, 10}, {4, 5}, {7, 10}, {3, 5}, {1, 2}, {2, 5}, {3, 10}, {1, 5}, {1, 10}, {0, 1}};
        for (int p = 0; p <= 10; p++) {
            GiftsOfCourts x = chain(1);
            check.due("by " + p + " tenths", x, x.alive(0, 1, p), 0, lives[p]);
        }
        for (int p : new int[] {MIN, -1, 11, MAX}) {
            check.refused("p " + p, Check::busy, x -> x.alive(0, 1, p), -1);
        }
    }

    /** Terms 2: "Fractions are told in lowest terms, upper and lower number (0 by 1)." */
    private static void aliveLowestTerms() {
        for (int months = 1; months <= 9; months++) {
            for (int p = 0; p <= 10; p++) {
                GiftsOfCourts x = Check.alike(2, "");
                x.road(0, 1, months);
                x.alive(0, 1, p);
                long upper = x.row(0);
                long lower = x.row(1);
                long common = 1;
                for (long d = 2; d <= 10; d++) {
                    common = upper % d == 0 && lower % d == 0 ? d : common;
                }
                check.due("no common divisor", common, 1);
                long tenths = 1;
                long all = 1;
                for (int i = 0; i < months; i++) {
                    tenths *= 10 - p;
                    all *= 10;
                }
                check.due("the same fraction", upper * all, tenths * lower);
                check.due("0 by 1", upper == 0 ? lower : 1, 1);
            }
        }
    }

    /** Promise 26: "-2: .. or more than 12 MONTHS". */
    private static void aliveMoreThan12() {
        for (int last = 1; last <= 9; last++) {
            GiftsOfCourts x = Check.alike(3, "");
            x.road(0, 1, 9);
            x.road(1, 2, last);
            x.league();
            if (9 + last <= 12) {
                check.due("by " + (9 + last), x, x.alive(0, 2, 10), 0, 0, 1);
            } else {
                check.due("by " + (9 + last), x.alive(0, 2, 10), -2);
                check.row("the row stays", x, 1);
            }
        }
        GiftsOfCourts twelve = chain(4);
        check.due("12 months", twelve, twelve.alive(0, 3, 9), 0, 1, 1000000000000L);
        check.due("12 months of 9 tenths", twelve, twelve.alive(3, 0, 1), 0, 282429536481L, 1000000000000L);
        check.refused("16 months", () -> chain(4), x -> x.alive(0, 4, 0), -2);
    }

    /** Promise 26: "-2: there is no way". */
    private static void aliveNoWay() {
        check.refused("no way", Check::busy, x -> x.alive(0, 2, 0), -2);
        check.due("a way", Check.busy().alive(0, 1, 0), 0);
    }

    /** Promise 26: "NONE: others": none such, and not "another one". */
    private static void aliveOthers() {
        int[][] wrong = {{0, 0}, {2, 2}, {-1, 0}, {0, -1}, {3, 0}, {0, 3}, {MIN, 0}, {0, MAX}, {3, 3}};
        for (int[] w : wrong) {
            check.refused("alive(" + w[0] + ", " + w[1] + ", 5)", Check::busy, x -> x.alive(w[0], w[1], 5), -1);
        }
        check.refused("another p ahead of no way", Check::busy, x -> x.alive(0, 2, 11), -1);
    }

    /** Promise 27: "In how many MONTHS (1 .. 99) a GIFT of a court first dies". */
    private static void feedsMonths() {
        // A beast eats 3 of 2 more a month: behind so many months as grain is there, 1 is less.
        for (int grain : new int[] {0, 1, 2, 50, 96, 97, 98}) {
            GiftsOfCourts x = Check.realm("155555", "15,30");
            x.sheet(2, 1, grain, 0);
            check.due("of " + grain, x, x.feeds(0), grain + 1, 0, 0);
        }
        // What is left behind that month is what the others leave of it.
        GiftsOfCourts y = Check.realm("555555", "15,90;15,40;15,00");
        y.sheet(3, 0, 0, 0);
        check.due("the first month", y, y.feeds(0), 1, 1, 0);
    }

    /** Promise 27: "that GIFT (the first, if more die in it)". */
    private static void feedsTheFirst() {
        GiftsOfCourts x = Check.realm("155555;155555", "15,91;15,00;15,90;45,90;15,30");
        x.sheet(3, 0, 0, 0);
        check.due("2, 3 and 4 die", x, x.feeds(0), 1, 2, 0);
        check.due("0 dies in the other", x, x.feeds(1), 1, 0, 0);
        GiftsOfCourts y = Check.realm("155555", "15,20;15,10");
        y.sheet(3, 0, 0, 0);
        check.due("the second goes without", y, y.feeds(0), 1, 1, 0);
    }

    /** Promise 27: "-2: in none of these". */
    private static void feedsNone() {
        check.refused("in the 100th", RoadsBoundsTest::grain99, x -> x.feeds(0), -2);
        GiftsOfCourts x = grain99();
        x.months(60);
        check.due("none in 99", x.months(39), 0);
        check.due("and one more", x.months(1), 1);
        check.refused("what eats no more than comes", () -> Check.realm("155555", "15,20"), y -> y.feeds(0), -2);
        check.refused("no gifts", Check::busy, y -> y.feeds(1), -2);
        check.refused("a dead one", Check::busy, y -> y.feeds(0), -2);
        check.refused("a thing", () -> Check.realm("155555", "05,90"), y -> y.feeds(0), -2);
    }

    private static GiftsOfCourts grain99() {
        GiftsOfCourts x = Check.realm("155555;155555", "15,30");
        x.sheet(2, 1, 99, 0);
        x.league();
        return x;
    }

    /** Promise 27: "NONE: none such." */
    private static void feedsNoneSuch() {
        for (int court : new int[] {MIN, -1, 3, 6, MAX}) {
            check.refused("feeds(" + court + ")", Check::busy, x -> x.feeds(court), -1);
        }
    }

    /** Promise 28: "The GIFT (ALIVE, of KIND 1 or 4, of a court)". */
    private static void starvesAliveOfKinds() {
        for (int kind = 0; kind <= 4; kind++) {
            GiftsOfCourts x = Check.realm("955555;155555", kind + "5,90");
            boolean eats = kind == 1 || kind == 4;
            check.due("kind " + kind, x.starves(0, 1), eats ? 0 : -2);
        }
        check.refused("dead", Check::busy, x -> x.starves(0, 1), -2);
        check.refused("of another court", Check::busy, x -> x.starves(1, 0), -2);
        // Another beast of the court that gets it may be the one that dies, also by one that eats nothing.
        GiftsOfCourts other = Check.realm("955555;155555", "15,00;15,91");
        check.due("it eats nothing, but there they starve", other, other.starves(0, 1), 0, 8);
    }

    /** Promise 28: "of equal ones the first". */
    private static void starvesEqualOnes() {
        GiftsOfCourts x = Check.realm("955555;155555", "15,30;15,90;45,90;15,80");
        check.due("8 months by 1 and 2", x, x.starves(0, 1), 1, 8);
        x.sheet(3, 0, 0, 0);
        check.due("one month by each", x, x.starves(0, 1), 0, 1);
    }

    /** Promise 28: "-2: none of them, in 99". */
    private static void starvesNone() {
        for (int grain = 96; grain <= 100; grain++) {
            GiftsOfCourts x = Check.realm("955555;155555", "15,30");
            x.sheet(2, 2, grain, 0);
            x.league();
            if (grain <= 98) {
                check.due("of " + grain, x, x.starves(0, 1), 0, grain + 1);
            } else {
                check.due("of " + grain, x.starves(0, 1), -2);
                check.row("the row stays", x, 1);
            }
        }
        check.refused("none to give", Check::busy, x -> x.starves(1, 2), -2);
    }

    /** Promise 28: "NONE: none such, like ones". */
    private static void starvesNoneSuch() {
        int[][] wrong = {{0, 0}, {2, 2}, {-1, 0}, {0, -1}, {3, 0}, {0, 3}, {MIN, 0}, {0, MAX}, {3, 3}};
        for (int[] w : wrong) {
            check.refused("starves(" + w[0] + ", " + w[1] + ")", Check::busy, x -> x.starves(w[0], w[1]), -1);
        }
        check.due("2 has a bear", Check.busy().starves(2, 1), 2);
    }
}
