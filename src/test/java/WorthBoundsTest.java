import java.util.Arrays;

/** The boundary cases of promises 18 to 23. */
final class WorthBoundsTest {
    private static final Check check = new Check();
    private static final int MIN = Integer.MIN_VALUE;
    private static final int MAX = Integer.MAX_VALUE;
    private static final int[][] NO_TWO = {{0, 0}, {2, 2}, {-1, 0}, {0, -1}, {3, 0}, {0, 3}, {MIN, 0}, {0, MAX}, {-1, -1}, {3, 3}};

    public static void main(String[] args) {
        valueWhichMayHaveIt();
        valueNoneSuch();
        whereNotTheOneThatHasIt();
        whereEqualOnes();
        whereNoOtherCourt();
        whereNoneSuch();
        answerEqualOnes();
        answerEsteemLimits();
        answerNoGift();
        answerNoneSuch();
        winsBy15();
        winsByFour();
        winsEqualOnes();
        winsOneBehindTheOther();
        winsNotByFour();
        winsNoneSuch();
        unseenHadIt();
        unseenAllied();
        unseenNoneSuch();
        swapsMoreValue();
        swapsUnlikeCourts();
        swapsEqualOnes();
        swapsNothingWithout();
        check.end();
    }

    /** Promise 18: "for a court (which may have it)". */
    private static void valueWhichMayHaveIt() {
        GiftsOfCourts x = Check.realm("312345;967890;255555", "150,00");
        check.due("the one that has it", x.value(0, 0), 20);
        check.due("another one", x.value(0, 1), 70);
        Check.rule(x, "10*r+s");
        check.due("the one that has it, by ranks", x.value(0, 0), 33);
        check.due("another one, by ranks", x.value(0, 1), 93);
    }

    /** Promise 18: "NONE: none such." */
    private static void valueNoneSuch() {
        int[][] wrong = {{-1, 0}, {3, 0}, {0, -1}, {0, 3}, {MIN, 0}, {MAX, 0}, {0, MIN}, {0, MAX}};
        for (int[] w : wrong) {
            check.refused("value(" + w[0] + ", " + w[1] + ")", Check::busy, x -> x.value(w[0], w[1]), -1);
        }
        GiftsOfCourts full = Check.alike(6, Check.lines("05,00", 8));
        check.due("the last of the last", full.value(7, 5), 5);
        check.due("no ninth gift", full.value(8, 5), -1);
        check.due("no seventh court", full.value(7, 6), -1);
    }

    /** Promise 19: "(not the one that has it)". */
    private static void whereNotTheOneThatHasIt() {
        GiftsOfCourts x = Check.realm("595555;515555;525555;505555", "010,00");
        check.due("its own court would be the most", x, x.where(0), 2, 4, 0);
        x.send(0, 3);
        check.due("and would be the least", x, x.where(0), 0, 18, 2);
    }

    /** Promise 19: "of equal ones the first". */
    private static void whereEqualOnes() {
        GiftsOfCourts x = Check.realm("515555;555555;595555;595555;515555;595555", "010,02");
        check.due("3 ahead of 5", x, x.where(0), 3, 18, 2);
        Check.rule(x, "0");
        check.due("all of value 0", x, x.where(0), 0, 0, 0);
        Check.rule(x, "999");
        check.due("all of value 999", x, x.where(0), 0, 999, 999);
        x.send(0, 0);
        check.due("the first but its own", x, x.where(0), 1, 999, 999);
    }

    /** Promise 19: "-2: there is no other court". */
    private static void whereNoOtherCourt() {
        check.refused("one court", () -> oneCourt("05,00"), x -> x.where(0), -2);
        GiftsOfCourts two = Check.alike(2, "05,00;06,01");
        check.due("two courts", two, two.where(0), 1, 5, 5);
        check.due("two courts", two, two.where(1), 0, 6, 6);
    }

    private static GiftsOfCourts oneCourt(String gifts) {
        GiftsOfCourts x = Check.alike(1, gifts);
        x.league();
        return x;
    }

    /** Promise 19: "NONE: none such." */
    private static void whereNoneSuch() {
        for (int gift : new int[] {MIN, -1, 3, 8, MAX}) {
            check.refused("where(" + gift + ")", Check::busy, x -> x.where(gift), -1);
        }
        check.refused("where(1) of one court", () -> oneCourt("05,00"), x -> x.where(1), -1);
        check.due("the last gift", Check.alike(2, Check.lines("05,00", 8)).where(7), 1);
    }

    /** Promise 20: "of equal ones the one with the least WORTH, then the first". */
    private static void answerEqualOnes() {
        GiftsOfCourts x = Check.alike(2, "030,00;020,00;020,00;031,00");
        check.due("least worth, the first of them", x, x.answer(0, 1), 1, 12, 20);
        GiftsOfCourts by = Check.realm("555555;519555", "120,00;030,00");
        // The value is no reason: the lesser worth is the one of more value.
        check.due("not the least value", by, by.answer(0, 1), 0, 12, 36);
        GiftsOfCourts owing = Check.alike(2, "020,00;05,01;040,01;010,01;041,01");
        owing.send(0, 1);
        check.due("the most esteem ahead of the least worth", owing, owing.answer(1, 0), 3, 14, 10);
    }

    /** Promise 20: "ESTEEM of that one for it is the most": 0 .. 20. */
    private static void answerEsteemLimits() {
        GiftsOfCourts x = Check.alike(2, "020,00;05,01;020,01");
        x.send(0, 1);
        x.envoy(0, 1, 9);
        // By 5 it would be 14, by 20 it is 20 (not 23).
        check.due("20 at most", x, x.answer(1, 0), 2, 20, 20);
        GiftsOfCourts low = Check.alike(2, "020,00;09,01;05,01");
        low.send(0, 1);
        low.envoy(0, 1, -6);
        check.due("0 at least: equal ones", low, low.answer(1, 0), 2, 0, 5);
        low.envoy(0, 1, 2);
        check.due("1 left: equal ones still", low, low.answer(1, 0), 2, 1, 5);
    }

    /** Promise 20: "-2: it has no GIFT". */
    private static void answerNoGift() {
        check.refused("1 has none", Check::busy, x -> x.answer(1, 0), -2);
        check.due("2 has one", Check.busy().answer(2, 0), 2);
        check.due("one that is dead is one", Check.realm("155555;555555", "15,00").answer(0, 1), 0);
        GiftsOfCourts dead = Check.realm("155555;555555", "15,90");
        dead.sheet(3, 0, 0, 0);
        dead.months(1);
        check.due("dead", dead, dead.answer(0, 1), 0, 6, 5);
        check.due("no gifts at all", Check.alike(2, "").answer(0, 1), -2);
    }

    /** Promise 20: "NONE: none such, like ones". */
    private static void answerNoneSuch() {
        for (int[] w : NO_TWO) {
            check.refused("answer(" + w[0] + ", " + w[1] + ")", Check::busy, x -> x.answer(w[0], w[1]), -1);
        }
    }

    /** Promise 21: "so that ESTEEM of that one for it is 15 or more". */
    private static void winsBy15() {
        int[] fewest = {3, 2, 2, 1, 1, 0, 0};
        for (int esteem = 10; esteem <= 16; esteem++) {
            GiftsOfCourts x = Check.alike(2, Check.lines("05,00", 4));
            if (esteem > 10) {
                x.envoy(1, 0, esteem - 10);
            }
            long[] row = {0, 1, 2, 3};
            x.league();
            int due = fewest[esteem - 10];
            check.due("wins at " + esteem, x, x.wins(0, 1), due, Arrays.copyOf(row, due));
        }
        GiftsOfCourts other = Check.alike(2, "05,00");
        other.envoy(0, 1, 9);
        check.due("the other one's esteem wins nothing", other.wins(0, 1), -2);
    }

    /** Promise 21: "The fewest GIFTS (0 .. 4)". */
    private static void winsByFour() {
        GiftsOfCourts none = Check.alike(2, "");
        none.envoy(1, 0, 5);
        none.league();
        check.due("0, without gifts", none, none.wins(0, 1), 0);
        GiftsOfCourts x = Check.alike(2, Check.lines("05,00", 8));
        x.envoy(1, 0, -3);
        check.due("four from 7", x, x.wins(0, 1), 4, 0, 1, 2, 3);
        GiftsOfCourts few = Check.alike(2, Check.lines("05,00", 3));
        few.envoy(1, 0, -3);
        check.due("but there are three", few.wins(0, 1), -2);
        few.envoy(1, 0, 2);
        check.due("three from 9", few, few.wins(0, 1), 3, 0, 1, 2);
    }

    /** Promise 21: "of as few those with the least WORTH together, then the least row". */
    private static void winsEqualOnes() {
        GiftsOfCourts x = Check.alike(2, "09,00;07,00;08,00;07,00;07,00");
        x.envoy(1, 0, 2);
        check.due("7 and 7, the least row", x, x.wins(0, 1), 2, 1, 3);
        x.envoy(1, 0, 2);
        check.due("one of 7", x, x.wins(0, 1), 1, 1);
        // Fewer ones first, were they of more worth.
        GiftsOfCourts owing = Check.alike(2, "040,00;01,01;02,01;03,01;040,01");
        owing.send(0, 1);
        owing.envoy(0, 1, 1);
        check.due("one of 40 by 4 more", owing, owing.wins(1, 0), 1, 4);
    }

    /** Promise 21: "one behind the other": the first that is welcome pays the DUE, and the next ones are 2 more each. */
    private static void winsOneBehindTheOther() {
        GiftsOfCourts x = Check.alike(2, "020,00;05,01;020,01");
        x.send(0, 1);
        x.envoy(0, 1, -1);
        check.due("4 and 2, the dearer first", x, x.wins(1, 0), 2, 2, 1);
        GiftsOfCourts many = Check.alike(2, "020,00;05,01;01,01;01,01;01,01;020,01");
        many.send(0, 1);
        check.due("4 and 2 by the cheapest", many, many.wins(1, 0), 2, 5, 2);
        GiftsOfCourts first = Check.alike(2, "020,01;09,00;020,00;041,01");
        first.send(2, 1);
        first.envoy(0, 1, 1);
        check.due("the first gift pays", first, first.wins(1, 0), 1, 0);
        // What the other one had does not pay, and is 6 less.
        GiftsOfCourts had = Check.alike(2, "020,00;020,01");
        had.send(0, 1);
        had.envoy(0, 1, 5);
        had.envoy(0, 1, -1);
        check.due("by its own at once", had, had.wins(1, 0), 1, 1);
    }

    /** Promise 21: "-2: not by 4". */
    private static void winsNotByFour() {
        GiftsOfCourts made = fiveFrom6();
        check.due("five would be needed", made.gift(7, 3), 0);
        check.refused("five would be needed", WorthBoundsTest::fiveFrom6, x -> x.wins(0, 1), -2);
        check.refused("no gifts", Check::busy, x -> x.wins(1, 2), -2);
    }

    private static GiftsOfCourts fiveFrom6() {
        GiftsOfCourts x = Check.alike(2, Check.lines("05,00", 8));
        x.envoy(1, 0, -4);
        x.league();
        return x;
    }

    /** Promise 21: "NONE: likewise". */
    private static void winsNoneSuch() {
        for (int[] w : NO_TWO) {
            check.refused("wins(" + w[0] + ", " + w[1] + ")", Check::busy, x -> x.wins(w[0], w[1]), -1);
        }
    }

    /** Promise 22: "that did not HAVE it". */
    private static void unseenHadIt() {
        GiftsOfCourts x = Check.alike(6, "05,00");
        int had = 1;
        check.due("all others", x, x.unseen(0), 0b111110, 5);
        for (int c = 1; c < 6; c++) {
            x.send(0, c);
            had |= 1 << c;
            check.due("on to " + c, x, x.unseen(0), 63 & ~had, 5 - c);
        }
        GiftsOfCourts alone = Check.alike(1, "05,00");
        check.due("no other court", alone, alone.unseen(0), 0, 0);
        GiftsOfCourts last = Check.alike(6, "05,05");
        check.due("all but the last", last, last.unseen(0), 0b011111, 5);
    }

    /** Promise 22: "not ALLIED to any court that HAD it, but the one that has it". */
    private static void unseenAllied() {
        for (int esteem = 14; esteem <= 15; esteem++) {
            for (int back = 14; back <= 15; back++) {
                GiftsOfCourts x = Check.alike(4, "05,00");
                x.send(0, 1);
                x.envoy(0, 2, esteem - 10);
                x.envoy(2, 0, back - 10);
                boolean allied = esteem == 15 && back == 15;
                check.due("allied by " + esteem + " and " + back, x, x.unseen(0), allied ? 0b1000 : 0b1100, allied ? 1 : 2);
            }
        }
        GiftsOfCourts x = Check.alike(4, "05,00");
        x.envoy(0, 2, 9);
        x.envoy(2, 0, 9);
        check.due("allied to the one that has it", x, x.unseen(0), 0b1110, 3);
        x.send(0, 3);
        check.due("that had it, then", x, x.unseen(0), 0b0010, 1);
        x.send(0, 0);
        check.due("that has it again", x, x.unseen(0), 0b0110, 2);
    }

    /** Promise 22: "NONE: none such." */
    private static void unseenNoneSuch() {
        for (int gift : new int[] {MIN, -1, 3, 8, MAX}) {
            check.refused("unseen(" + gift + ")", Check::busy, x -> x.unseen(gift), -1);
        }
        check.due("the last gift", Check.alike(2, Check.lines("05,00", 8)).unseen(7), 2);
    }

    /** Promise 23: "for each of these two courts the other one's GIFT has more VALUE than its own". */
    private static void swapsMoreValue() {
        // Court 0 has a thing, court 1 a beast; each pair of tastes tells whether both gain, one, or none.
        for (int own = 4; own <= 6; own++) {
            for (int others = 4; others <= 6; others++) {
                GiftsOfCourts x = Check.realm("55" + own + "555;5" + others + "5555", "05,00;15,01");
                boolean both = own > 5 && others > 5;
                if (both) {
                    check.due("both gain", x, x.swaps(), 1, 0, 1, 2);
                } else {
                    check.due("tastes " + own + " and " + others, x, x.swaps(), 0);
                }
            }
        }
    }

    /** Promise 23: "that unlike courts have". */
    private static void swapsUnlikeCourts() {
        GiftsOfCourts x = Check.realm("511911;591111", "020,00;220,00");
        check.due("of one court", x, x.swaps(), 0);
        x.send(1, 1);
        check.due("of two", x, x.swaps(), 1, 0, 1, 64);
    }

    /** Promise 23: "(of equal ones the least row)". */
    private static void swapsEqualOnes() {
        GiftsOfCourts x = Check.realm("511911;591111", "220,01;020,00;020,00;220,01;221,01");
        check.due("2 and 4, or 1 and 4: the most gain, the least row", x, x.swaps(), 6, 1, 4, 33 + 32);
        GiftsOfCourts y = Check.realm("511911;591111", "220,01;020,00;020,00;220,01");
        check.due("all are equal", y, y.swaps(), 4, 0, 1, 64);
    }

    /** Promise 23: "(nothing without)". */
    private static void swapsNothingWithout() {
        for (GiftsOfCourts x : new GiftsOfCourts[] {new GiftsOfCourts(), Check.alike(2, ""), Check.alike(2, "05,00"),
            Check.alike(2, "05,00;06,01")}) {
            x.league();
            check.due("none", x, x.swaps(), 0);
            check.due("no numbers", x.count(11), 0);
        }
    }
}
