/** The boundary cases of promises 7 to 11, and of ALLIED and AT WAR in terms 1. */
final class StateBoundsTest {
    private static final Check check = new Check();
    private static final int MIN = Integer.MIN_VALUE;
    private static final int MAX = Integer.MAX_VALUE;

    public static void main(String[] args) {
        allied();
        atWar();
        courtNoneSuch();
        courtAnotherWhat();
        betweenNoneSuch();
        betweenAnotherWhat();
        betweenNoRoad();
        giftNoneSuch();
        giftAnotherWhat();
        roadMonths();
        roadRefused();
        sheetLowestBits();
        sheetPutToGrain();
        sheetBehindIt();
        sheetBelowZero();
        sheetMissing();
        sheetNone();
        check.end();
    }

    /** Terms 1: "Two are ALLIED, if both have ESTEEM of 15 or more". */
    private static void allied() {
        for (int one = 13; one <= 17; one++) {
            for (int other = 13; other <= 17; other++) {
                GiftsOfCourts x = Check.alike(3, "");
                x.envoy(0, 2, one - 10);
                x.envoy(2, 0, other - 10);
                boolean both = one >= 15 && other >= 15;
                check.due("allies of 0 by " + one + " and " + other, x.court(0, 3), both ? 0b100 : 0);
                check.due("allies of 2 by " + one + " and " + other, x.court(2, 3), both ? 0b001 : 0);
                check.due("allied pairs", x.count(5), both ? 1 : 0);
                check.due("no war by it", x.count(6), 0);
            }
        }
    }

    /** Terms 1: "AT WAR, if one has 0". */
    private static void atWar() {
        for (int one = 0; one <= 2; one++) {
            for (int other = 0; other <= 2; other++) {
                GiftsOfCourts x = Check.alike(3, "");
                lower(x, 1, 2, one);
                lower(x, 2, 1, other);
                boolean war = one == 0 || other == 0;
                check.due("foes of 1 by " + one + " and " + other, x.court(1, 4), war ? 0b100 : 0);
                check.due("foes of 2 by " + one + " and " + other, x.court(2, 4), war ? 0b010 : 0);
                check.due("pairs at war", x.count(6), war ? 1 : 0);
                check.due("none allied by it", x.count(5), 0);
            }
        }
    }

    private static void lower(GiftsOfCourts x, int court, int other, int to) {
        x.envoy(court, other, -8);
        if (to != 2) {
            x.envoy(court, other, to - 2);
        }
    }

    /** Promise 7: "NoSuchElementException: none such". */
    private static void courtNoneSuch() {
        for (int courts = 0; courts <= 6; courts++) {
            GiftsOfCourts x = Check.alike(courts, "");
            for (int court = -2; court <= 8; court++) {
                int asked = court;
                if (court >= 0 && court < courts) {
                    check.due("court(" + court + ", 0) of " + courts, x.court(court, 0), 5);
                } else {
                    check.noSuch("court(" + court + ", 0) of " + courts, () -> x.court(asked, 0));
                    check.noSuch("court(" + court + ", 10) of " + courts, () -> x.court(asked, 10));
                }
            }
        }
        for (int court : new int[] {MIN, -1, 3, 6, MAX}) {
            check.refusedThrowing("court(" + court + ", 5)", Check::busy, x -> x.court(court, 5));
        }
    }

    /** Promise 7: "another what": 0 .. 5 and 10 .. 14 are there. */
    private static void courtAnotherWhat() {
        GiftsOfCourts x = Check.realm("312345;967890", "120,90");
        int[] due = {3, 50, 1, 0, 0, 0};
        for (int what = 0; what <= 5; what++) {
            check.due("court(0, " + what + ")", x.court(0, what), due[what]);
        }
        for (int kind = 0; kind < 5; kind++) {
            check.due("court(0, 1" + kind + ")", x.court(0, 10 + kind), 1 + kind);
        }
        check.due("it has no gift", x.court(1, 2), 0);
        GiftsOfCourts eight = Check.alike(6, Check.lines("19,95", 8));
        check.due("it has all eight", eight.court(5, 2), 255);
        check.due("and the others none", eight.court(4, 2), 0);
        for (int what : new int[] {MIN, -2, -1, 6, 7, 8, 9, 15, 16, MAX}) {
            check.refusedThrowing("court(0, " + what + ")", Check::busy, y -> y.court(0, what));
        }
    }

    /** Promise 8: "NoSuchElementException: none such, like ones". */
    private static void betweenNoneSuch() {
        for (int courts = 0; courts <= 6; courts++) {
            GiftsOfCourts x = Check.alike(courts, "");
            for (int one = -1; one <= 6; one++) {
                for (int other = -1; other <= 6; other++) {
                    int first = one;
                    int second = other;
                    String name = "between(" + one + ", " + other + ", 0) of " + courts;
                    if (one >= 0 && other >= 0 && one < courts && other < courts && one != other) {
                        check.due(name, x.between(one, other, 0), 10);
                    } else {
                        check.noSuch(name, () -> x.between(first, second, 0));
                    }
                }
            }
        }
        int[][] wrong = {{0, 0}, {2, 2}, {-1, -1}, {3, 0}, {0, 3}, {-1, 0}, {0, -1}, {MAX, 0}, {0, MIN}};
        for (int[] w : wrong) {
            for (int what = 0; what < 3; what++) {
                int asked = what;
                check.refusedThrowing("between(" + w[0] + ", " + w[1] + ")", Check::busy, x -> x.between(w[0], w[1], asked));
            }
        }
    }

    /** Promise 8: "another what". */
    private static void betweenAnotherWhat() {
        GiftsOfCourts x = Check.busy();
        check.due("0", x.between(0, 1, 0), 12);
        check.due("1", x.between(0, 1, 1), 31);
        check.due("2", x.between(0, 1, 2), 4);
        for (int what : new int[] {MIN, -1, 3, MAX}) {
            check.refusedThrowing("between(0, 1, " + what + ")", Check::busy, y -> y.between(0, 1, what));
        }
    }

    /** Promise 8: "MONTHS of the ROAD between (NONE)". */
    private static void betweenNoRoad() {
        GiftsOfCourts x = Check.alike(2, "");
        check.due("none", x.between(0, 1, 2), GiftsOfCourts.NONE);
        x.road(0, 1, 1);
        check.due("the shortest", x.between(1, 0, 2), 1);
        x.road(0, 1, 0);
        check.due("none again", x.between(1, 0, 2), GiftsOfCourts.NONE);
    }

    /** Promise 9: "NoSuchElementException: likewise", of GIFTS that are not there. */
    private static void giftNoneSuch() {
        for (int gifts = 0; gifts <= 8; gifts++) {
            GiftsOfCourts x = Check.alike(1, Check.lines("37,10", gifts));
            for (int gift = -1; gift <= 9; gift++) {
                int asked = gift;
                if (gift >= 0 && gift < gifts) {
                    check.due("gift(" + gift + ", 0) of " + gifts, x.gift(gift, 0), 3);
                } else {
                    check.noSuch("gift(" + gift + ", 0) of " + gifts, () -> x.gift(asked, 0));
                }
            }
        }
        for (int gift : new int[] {MIN, -1, 3, 8, MAX}) {
            check.refusedThrowing("gift(" + gift + ", 0)", Check::busy, x -> x.gift(gift, 0));
        }
    }

    /** Promise 9: likewise, of another what. */
    private static void giftAnotherWhat() {
        GiftsOfCourts x = Check.busy();
        int[] due = {1, 20, 9, 0, 1, 1};
        for (int what = 0; what < 6; what++) {
            check.due("gift(0, " + what + ")", x.gift(0, what), due[what]);
        }
        for (int what : new int[] {MIN, -1, 6, MAX}) {
            check.refusedThrowing("gift(0, " + what + ")", Check::busy, y -> y.gift(0, what));
        }
    }

    /** Promise 10: "n MONTHS (1 .. 9), or there is none (0): how many it had (0: none)". */
    private static void roadMonths() {
        GiftsOfCourts x = Check.alike(3, "");
        int had = 0;
        for (int n : new int[] {0, 1, 2, 3, 4, 5, 6, 7, 8, 9, 0, 9, 1, 0, 0}) {
            check.due("road of " + n, x.road(2, 1, n), had);
            check.due("months", x.between(1, 2, 2), n == 0 ? -1 : n);
            check.due("and back", x.between(2, 1, 2), n == 0 ? -1 : n);
            check.due("no other", x.between(0, 1, 2), -1);
            check.due("roads", x.count(8), n == 0 ? 0 : 1);
            had = n;
        }
    }

    /** Promise 10: "Refused: none such, like ones, another n." */
    private static void roadRefused() {
        int[][] wrong = {{0, 1, -1}, {0, 1, 10}, {0, 1, MIN}, {0, 1, MAX}, {0, 0, 5}, {2, 2, 0}, {-1, 0, 5}, {0, -1, 5},
            {3, 0, 5}, {0, 3, 5}, {MIN, 0, 5}, {0, MAX, 5}, {3, 4, 0}};
        for (int[] w : wrong) {
            check.refused("road(" + w[0] + ", " + w[1] + ", " + w[2] + ")", Check::busy, x -> x.road(w[0], w[1], w[2]), -1);
        }
        GiftsOfCourts last = Check.alike(6, "");
        check.due("the last two", last.road(4, 5, 9), 0);
        check.due("behind the last", last.road(5, 6, 9), -1);
    }

    /** Promise 11: "of bytes, shorts the lowest bits, with their sign". */
    private static void sheetLowestBits() {
        sheet("a byte 127", 0, 1, 127, 0, 127);
        sheet("a byte 128 is below 0", 0, 1, 128, 0, 0);
        sheet("a byte 255 is below 0", 0, 1, 255, 0, 0);
        sheet("a byte 256 is 0", 0, 1, 256, 0, 0);
        sheet("a byte 257 is 1", 0, 1, 257, 0, 1);
        sheet("a byte -129 is 127", 0, 1, -129, 0, 127);
        sheet("a byte -128", 0, 1, -128, 0, 0);
        sheet("bytes on and on", 0, 6, 126, 1, 126, 127, 0, 0, 0, 0);
        sheet("bytes with a step round", 0, 6, 250, 3, 0, 0, 0, 3, 6, 9);
        sheet("a short 999", 1, 1, 999, 0, 999);
        sheet("a short 32767", 1, 1, 32767, 0, 999);
        sheet("a short 32768 is below 0", 1, 1, 32768, 0, 0);
        sheet("a short 65535 is below 0", 1, 1, 65535, 0, 0);
        sheet("a short 65537 is 1", 1, 1, 65537, 0, 1);
        sheet("a short -32769 is 32767", 1, 1, -32769, 0, 999);
        sheet("a short 128", 1, 1, 128, 0, 128);
        sheet("shorts on and on", 1, 3, 32766, 1, 999, 999, 0);
        sheet("an int 32768", 2, 1, 32768, 0, 999);
        sheet("an int 65537", 2, 1, 65537, 0, 999);
        sheet("an int 257", 2, 1, 257, 0, 257);
        sheet("ints round", 2, 3, MAX - 1, 1, 999, 999, 0);
        sheet("ints round the other way", 2, 3, MIN + 1, -1, 0, 0, 999);
        sheet("a great step", 2, 6, 5, MIN, 5, 0, 5, 0, 5, 0);
    }

    /** Promise 11: "put to 0 .. 999". */
    private static void sheetPutToGrain() {
        sheet("ints below", 2, 4, -2, 1, 0, 0, 0, 1);
        sheet("ints above", 2, 4, 997, 1, 997, 998, 999, 999);
        sheet("the least", 2, 1, MIN, 0, 0);
        sheet("the most", 2, 1, MAX, 0, 999);
        sheet("shorts below", 1, 4, -2, 1, 0, 0, 0, 1);
        sheet("shorts above", 1, 4, 997, 1, 997, 998, 999, 999);
        sheet("bytes below", 0, 4, -2, 1, 0, 0, 0, 1);
    }

    /** Promise 11: "of n entries .. those behind it have 0: the sum of all". */
    private static void sheetBehindIt() {
        for (int kind = 0; kind < 3; kind++) {
            for (int n = 0; n <= 6; n++) {
                int[] due = new int[6];
                for (int c = 0; c < n; c++) {
                    due[c] = 10 + 7 * c;
                }
                sheet("of " + n + " entries", kind, n, 10, 7, due);
            }
        }
        GiftsOfCourts few = Check.alike(2, "");
        check.due("entries that no court has", few.sheet(2, 6, 10, 7), 10 + 17);
        Check.courts(few, "555555");
        check.due("a court that comes later has its own", few.court(2, 1), 50);
        GiftsOfCourts none = new GiftsOfCourts();
        check.due("no courts", none.sheet(2, 6, 10, 7), 0);
    }

    private static void sheet(String name, int kind, int n, int f, int step, int... due) {
        GiftsOfCourts x = Check.alike(6, "");
        int sum = 0;
        for (int grain : due) {
            sum += grain;
        }
        check.due(name, x.sheet(kind, n, f, step), sum);
        for (int c = 0; c < 6; c++) {
            check.due(name + ", court " + c, x.court(c, 1), c < due.length ? due[c] : 0);
        }
        check.due(name + ", together", x.count(3), sum);
    }

    /** Promise 11: "-2: n below 0 (of kinds 0 .. 2; nothing changes)". */
    private static void sheetBelowZero() {
        for (int kind = 0; kind < 3; kind++) {
            int asked = kind;
            check.refused("n -1", Check::busy, x -> x.sheet(asked, -1, 9, 9), -2);
            check.refused("n min", Check::busy, x -> x.sheet(asked, MIN, 9, 9), -2);
            check.due("n 0", Check.alike(2, "").sheet(kind, 0, 9, 9), 0);
        }
        check.due("not of kind 3", Check.alike(2, "").sheet(3, -1, 9, 9), -3);
        check.due("nor of kind 4", Check.alike(2, "").sheet(4, -1, 9, 9), -1);
        check.due("nor of kind -1", Check.alike(2, "").sheet(-1, -1, 9, 9), -1);
    }

    /** Promise 11: "-3: missing (all 0)". */
    private static void sheetMissing() {
        for (int n : new int[] {MIN, -1, 0, 1, 5, 6}) {
            GiftsOfCourts x = Check.alike(6, "");
            check.due("missing, n " + n, x.sheet(3, n, 9, 9), -3);
            for (int c = 0; c < 6; c++) {
                check.due("grain of " + c, x.court(c, 1), 0);
            }
            check.due("nothing to undo", x.count(10), 0);
        }
        check.due("no courts", new GiftsOfCourts().sheet(3, 0, 0, 0), -3);
    }

    /** Promise 11: "NONE: another kind, n above 6 (these first)". */
    private static void sheetNone() {
        for (int kind : new int[] {MIN, -1, 4, MAX}) {
            for (int n : new int[] {MIN, -1, 0, 6, 7, MAX}) {
                check.refused("kind " + kind + ", n " + n, Check::busy, x -> x.sheet(kind, n, 9, 9), -1);
            }
        }
        for (int kind = 0; kind <= 3; kind++) {
            int asked = kind;
            check.refused("n 7 of kind " + kind, Check::busy, x -> x.sheet(asked, 7, 9, 9), -1);
            check.refused("n max of kind " + kind, Check::busy, x -> x.sheet(asked, MAX, 9, 9), -1);
        }
    }
}
