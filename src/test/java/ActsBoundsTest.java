/** The boundary cases of promises 12 to 17, and of A GIFT IS SENT and A MONTH in terms 1. */
final class ActsBoundsTest {
    private static final Check check = new Check();
    private static final int MIN = Integer.MIN_VALUE;
    private static final int MAX = Integer.MAX_VALUE;
    private static final String SIXTY = "m0".repeat(30);

    public static void main(String[] args) {
        sentIfItHadIt();
        sentIfDead();
        sentTwiceIsLess();
        sentMoreThanTwice();
        sentDueAboveZero();
        sentEsteemLimits();
        sentDues();
        sentMostDues();
        sendItHasIt();
        sendNoneSuch();
        monthGrainLimit();
        monthLessThanItEats();
        monthByTheirNumbers();
        monthKindsThatEat();
        monthsRange();
        monthsRefused();
        envoyRange();
        envoyEsteemLimits();
        envoyRefused();
        forgiveZero();
        forgiveNoneSuch();
        yearOfAnEmptyText();
        yearSignCantStand();
        yearDigits();
        yearEndsTooEarly();
        yearMoreThan60();
        yearTillOneIsRefused();
        undoNone();
        undoFifteen();
        undoSuchAsWereDone();
        undoYearAsOne();
        undoForgotten();
        check.end();
    }

    /** Terms 1, sent (1): "if B HAD it, ESTEEM of B for A is 6 less", also if it is DEAD, and if a DUE is there. */
    private static void sentIfItHadIt() {
        GiftsOfCourts x = Check.alike(3, "020,00;010,01");
        x.send(0, 1);
        check.due("it had it", x, x.send(0, 0), 10 - 6, 20, 1);
        check.due("it did not", x, x.send(0, 2), 10 + 2, 20, 0);
        // 1 owes 20 to 0, and sends it what it had.
        GiftsOfCourts owing = Check.alike(2, "020,00");
        owing.send(0, 1);
        check.due("with a due", owing, owing.send(0, 0), 10 - 6, 20, 1);
        check.due("the due stays", owing.between(1, 0, 1), 20);
        GiftsOfCourts dead = dead();
        dead.send(0, 1);
        check.due("dead, and it had it", dead, dead.send(0, 0), 10 - 6, 20, 1);
    }

    /** Terms 1, sent (2): "else, if it is DEAD, 4 less". */
    private static void sentIfDead() {
        GiftsOfCourts x = dead();
        check.due("dead", x, x.send(0, 1), 10 - 4, 20, 0);
        check.due("it has it", x.gift(0, 3), 1);
        check.due("it had it", x.gift(0, 4), 3);
        check.due("no due by it", x.count(7), 0);
        GiftsOfCourts owing = Check.realm("155555;155555", "120,90;010,01");
        owing.send(1, 0);
        owing.sheet(3, 0, 0, 0);
        owing.months(1);
        check.due("dead, with a due", owing, owing.send(0, 1), 10 - 4, 20, 0);
        check.due("the due stays", owing.between(0, 1, 1), 10);
    }

    /** Gift 0 of court 0 is dead, and worth 20. */
    private static GiftsOfCourts dead() {
        GiftsOfCourts x = Check.realm("155555;155555;155555", "120,90");
        x.sheet(3, 0, 0, 0);
        x.months(1);
        return x;
    }

    /** Terms 1, sent (3): "if twice V is less than that DUE, ESTEEM is 5 less .. else 4 more". */
    private static void sentTwiceIsLess() {
        answered(20, 9, -5);
        answered(20, 10, 4);
        answered(20, 11, 4);
        answered(21, 10, -5);
        answered(21, 11, 4);
        answered(99, 49, -5);
        answered(99, 50, 4);
        answered(2, 1, 4);
        answered(3, 1, -5);
    }

    /** Terms 1, sent (3): "if V is more than twice that DUE, 2 less". */
    private static void sentMoreThanTwice() {
        answered(20, 39, 4);
        answered(20, 40, 4);
        answered(20, 41, -2);
        answered(21, 42, 4);
        answered(21, 43, -2);
        answered(1, 2, 4);
        answered(1, 3, -2);
        answered(49, 98, 4);
        answered(49, 99, -2);
    }

    /** Terms 1, sent (3) and (4): "if DUE of A to B is above 0", "else 2 more". */
    private static void sentDueAboveZero() {
        answered(1, 1, 4);
        GiftsOfCourts x = Check.alike(2, "05,00;07,01");
        check.due("no due", x.send(0, 1), 12);
        x.forgive(1, 0);
        check.due("a due of 0 again", x.send(1, 0), 12);
        GiftsOfCourts worthless = Check.alike(2, "05,00;07,01");
        Check.rule(worthless, "0");
        check.due("worth 0", worthless, worthless.send(0, 1), 12, 0, 0);
        check.due("makes a due of 0", worthless.between(1, 0, 1), 0);
        check.due("which is no due", worthless, worthless.send(1, 0), 12, 0, 0);
        // What B owes to A is no due of A to B.
        GiftsOfCourts other = Check.alike(2, "05,00;07,00");
        other.send(0, 1);
        check.due("the other way", other.send(1, 1), 14);
        check.due("together", other.between(1, 0, 1), 12);
    }

    /** Court 1 owes a due to court 0, and answers by a value: ESTEEM of court 0 for it. */
    private static void answered(int due, int value, int more) {
        GiftsOfCourts x = Check.alike(2, "0" + due + ",00;0" + value + ",01");
        x.send(0, 1);
        String name = "a due of " + due + " answered by " + value;
        check.due(name, x.between(1, 0, 1), due);
        check.due(name, x, x.send(1, 0), 10 + more, value, 0);
        check.due(name + ": it is 0 then", x.between(1, 0, 1), 0);
        check.due(name + ": no other due by it", x.between(0, 1, 1), 0);
    }

    /** Terms 1, sent: "0 .. 20 each time". */
    private static void sentEsteemLimits() {
        for (int esteem = 17; esteem <= 20; esteem++) {
            GiftsOfCourts x = Check.alike(2, "05,00");
            raise(x, 1, 0, esteem);
            check.due("2 more than " + esteem, x.send(0, 1), Math.min(20, esteem + 2));
        }
        for (int esteem = 0; esteem <= 20; esteem++) {
            GiftsOfCourts had = Check.alike(2, "05,00");
            had.send(0, 1);
            raise(had, 0, 1, esteem);
            check.due("6 less than " + esteem, had.send(0, 0), Math.max(0, esteem - 6));
            GiftsOfCourts dead = dead();
            raise(dead, 1, 0, esteem);
            check.due("4 less than " + esteem, dead.send(0, 1), Math.max(0, esteem - 4));
            answeredAt(esteem, 9, Math.max(0, esteem - 5));
            answeredAt(esteem, 41, Math.max(0, esteem - 2));
            answeredAt(esteem, 20, Math.min(20, esteem + 4));
        }
    }

    private static void answeredAt(int esteem, int value, int want) {
        GiftsOfCourts x = Check.alike(2, "020,00;0" + value + ",01");
        x.send(0, 1);
        raise(x, 0, 1, esteem);
        check.due("20 answered by " + value + " at " + esteem, x.send(1, 0), want);
    }

    /** ESTEEM of a court for another one, that is 10 or 12, is so much then. */
    private static void raise(GiftsOfCourts x, int court, int other, int to) {
        for (int left = to - x.between(court, other, 0); left != 0; left = to - x.between(court, other, 0)) {
            x.envoy(court, other, Math.max(-9, Math.min(9, left)));
        }
    }

    /** Terms 1, sent (5): "if DUE of A to B is above 0, it is 0 then, else DUE of B to A is V more". */
    private static void sentDues() {
        GiftsOfCourts x = Check.alike(3, "020,00;030,00;015,01;05,01");
        x.send(0, 1);
        x.send(1, 1);
        check.due("both", x.between(1, 0, 1), 50);
        x.send(2, 0);
        check.due("it is 0 by one, were it too small", x.between(1, 0, 1), 0);
        check.due("and no other way", x.between(0, 1, 1), 0);
        x.send(3, 0);
        check.due("the next one makes a due", x.between(0, 1, 1), 5);
        x.send(0, 2);
        check.due("to the one that sent it", x.between(2, 1, 1), 20);
        check.due("not to the one that had it", x.between(2, 0, 1), 0);
    }

    /** Terms 1: "DUE .. 0 .. 9999": eight gifts of 999 are the most that a court can owe to another one. */
    private static void sentMostDues() {
        GiftsOfCourts x = Check.alike(2, Check.lines("05,00", 8));
        Check.rule(x, "999");
        for (int g = 0; g < 8; g++) {
            x.send(g, 1);
            check.due("due", x.between(1, 0, 1), 999 * (g + 1));
        }
        check.due("of it to all", x.court(1, 5), 7992);
        check.due("forgiven", x.forgive(1, 0), 7992);
    }

    /** Promise 12: "-2: it has it". */
    private static void sendItHasIt() {
        check.refused("to the one that has it", Check::busy, x -> x.send(1, 0), -2);
        check.refused("to the one that has it, dead", Check::busy, x -> x.send(0, 0), -2);
        check.due("to another one", Check.busy().send(1, 2) >= 0, true);
    }

    /** Promise 12: "NONE: none such". */
    private static void sendNoneSuch() {
        int[][] wrong = {{-1, 0}, {3, 0}, {0, -1}, {0, 3}, {MIN, 0}, {MAX, 0}, {0, MIN}, {0, MAX}, {-1, -1}, {3, 3}, {8, 6}};
        for (int[] w : wrong) {
            check.refused("send(" + w[0] + ", " + w[1] + ")", Check::busy, x -> x.send(w[0], w[1]), -1);
        }
        check.due("the last gift to the last court", Check.alike(6, Check.lines("05,00", 8)).send(7, 5), 12);
        check.due("behind the last gift", Check.alike(6, Check.lines("05,00", 8)).send(8, 5), -1);
        check.due("behind the last court", Check.alike(6, Check.lines("05,00", 8)).send(7, 6), -1);
    }

    /** Terms 1, A MONTH: "GRAIN of each court is twice its RANK more (999 at most)". */
    private static void monthGrainLimit() {
        for (int rank = 1; rank <= 9; rank++) {
            for (int grain = 975; grain <= 999; grain++) {
                GiftsOfCourts x = Check.realm(rank + "55555", "");
                x.sheet(2, 1, grain, 0);
                check.due("a month", x, x.months(1), 0, 0, Math.min(999, grain + 2 * rank));
            }
        }
        // It is put to 999 ahead of the meal.
        GiftsOfCourts x = Check.realm("955555", "15,70");
        x.sheet(2, 1, 998, 0);
        check.due("a month with a meal", x, x.months(1), 0, 0, 992);
    }

    /** Terms 1, A MONTH: "if there is less, that is 0, and the GIFT is DEAD". */
    private static void monthLessThanItEats() {
        for (int kind : new int[] {1, 4}) {
            for (int eats = 0; eats <= 9; eats++) {
                for (int grain = 0; grain <= 9; grain++) {
                    GiftsOfCourts x = Check.realm("155555", kind + "5," + eats + "0");
                    x.sheet(2, 1, grain, 0);
                    boolean dies = grain + 2 < eats;
                    String name = eats + " of " + (grain + 2);
                    check.due(name, x, x.months(1), dies ? 1 : 0, dies ? 1 : 0, dies ? 0 : grain + 2 - eats);
                    check.due(name + ": dead", x.gift(0, 5), dies ? 1 : 0);
                    check.due(name + ": grain", x.court(0, 1), dies ? 0 : grain + 2 - eats);
                }
            }
        }
    }

    /** Terms 1, A MONTH: "then, by their numbers, each ALIVE GIFT", of GRAIN of the court that has it. */
    private static void monthByTheirNumbers() {
        GiftsOfCourts x = Check.realm("155555;155555", "15,50;15,31;15,60;15,20");
        x.sheet(2, 2, 9, -8);
        // Court 0: 11, 5 less, 6 less, and 0 is less than 2. Court 1: 3, 3 less.
        check.due("the last goes without", x, x.months(1), 1, 0b1000, 0);
        // Court 0: 2 is less than 5, and then 0 than 6. Court 1: 2 is less than 3.
        check.due("all others", x, x.months(1), 3, 0b0111, 0);
        check.due("none is left to eat", x, x.months(1), 0, 0, 4);
        GiftsOfCourts y = Check.realm("155555", "15,90;15,10");
        y.sheet(2, 1, 6, 0);
        check.due("what is too little for one is lost for all", y, y.months(1), 2, 3, 0);
    }

    /** Terms 1: "EATS 0 .. 9 (of KINDS 1 and 4 alone it counts)". */
    private static void monthKindsThatEat() {
        for (int kind = 0; kind <= 4; kind++) {
            GiftsOfCourts x = Check.realm("155555", kind + "5,90");
            boolean eats = kind == 1 || kind == 4;
            check.due("kind " + kind, x, x.months(1), 0, 0, eats ? 43 : 52);
            x.sheet(3, 0, 0, 0);
            check.due("kind " + kind + " dies", x.months(1), eats ? 1 : 0);
        }
    }

    /** Promise 13: "n MONTHS (0 .. 60)". */
    private static void monthsRange() {
        for (int n = 0; n <= 60; n++) {
            GiftsOfCourts x = Check.realm("155555;255555", "");
            check.due("months(" + n + ")", x, x.months(n), 0, 0, 100 + 6 * n);
            check.due("month", x.count(2), n);
            check.due("it can be undone", x.count(10), 1);
        }
        GiftsOfCourts two = Check.realm("155555;155555", "15,70;15,91");
        check.due("those that died in these", two, two.months(60), 2, 3, two.count(3));
        check.due("not those that had died", two, two.months(60), 0, 0, two.count(3));
        check.due("month goes on", two.count(2), 120);
    }

    /** Promise 13: "Refused: another n." */
    private static void monthsRefused() {
        for (int n : new int[] {MIN, -2, -1, 61, 62, MAX}) {
            check.refused("months(" + n + ")", Check::busy, x -> x.months(n), -1);
        }
    }

    /** Promise 14: "n (-9 .. 9; not 0) more". */
    private static void envoyRange() {
        for (int n = -12; n <= 12; n++) {
            int more = n;
            if (n >= -9 && n <= 9 && n != 0) {
                GiftsOfCourts x = Check.alike(2, "");
                check.due("envoy of " + n, x.envoy(1, 0, n), 10 + n);
                check.due("of that one", x.between(1, 0, 0), 10 + n);
                check.due("not of the other", x.between(0, 1, 0), 10);
                check.due("it can be undone", x.count(10), 1);
            } else {
                check.refused("envoy of " + n, Check::busy, x -> x.envoy(0, 1, more), -1);
            }
        }
        check.refused("envoy of min", Check::busy, x -> x.envoy(0, 1, MIN), -1);
        check.refused("envoy of max", Check::busy, x -> x.envoy(0, 1, MAX), -1);
    }

    /** Promise 14: "(0 .. 20)". */
    private static void envoyEsteemLimits() {
        for (int esteem = 0; esteem <= 20; esteem++) {
            for (int n = -9; n <= 9; n++) {
                if (n != 0) {
                    GiftsOfCourts x = Check.alike(2, "");
                    raise(x, 0, 1, esteem);
                    check.due(n + " more than " + esteem, x.envoy(0, 1, n), Math.max(0, Math.min(20, esteem + n)));
                }
            }
        }
    }

    /** Promise 14: "Refused: others." */
    private static void envoyRefused() {
        int[][] wrong = {{0, 0}, {2, 2}, {-1, 0}, {0, -1}, {3, 0}, {0, 3}, {MIN, 0}, {0, MAX}, {-1, -1}, {3, 3}};
        for (int[] w : wrong) {
            check.refused("envoy(" + w[0] + ", " + w[1] + ", 1)", Check::busy, x -> x.envoy(w[0], w[1], 1), -1);
        }
        check.due("the last two", Check.alike(6, "").envoy(5, 4, 1), 11);
    }

    /** Promise 15: "-2: it is 0". */
    private static void forgiveZero() {
        check.refused("nothing is owed", Check::busy, x -> x.forgive(0, 2), -2);
        check.refused("the other way", Check::busy, x -> x.forgive(1, 0), -2);
        GiftsOfCourts x = Check.alike(2, "01,00");
        x.send(0, 1);
        check.due("the least", x.forgive(1, 0), 1);
        check.due("it is 0 then", x.between(1, 0, 1), 0);
        check.due("and can't be forgiven", x.forgive(1, 0), -2);
        check.due("two acts", x.count(10), 2);
    }

    /** Promise 15: "NONE: none such, like ones". */
    private static void forgiveNoneSuch() {
        int[][] wrong = {{0, 0}, {1, 1}, {-1, 0}, {0, -1}, {3, 0}, {0, 3}, {MIN, 0}, {0, MAX}, {-1, -1}, {3, 3}};
        for (int[] w : wrong) {
            check.refused("forgive(" + w[0] + ", " + w[1] + ")", Check::busy, x -> x.forgive(w[0], w[1]), -1);
        }
    }

    /** Promise 16: "an empty one: nothing". */
    private static void yearOfAnEmptyText() {
        GiftsOfCourts x = Check.busy();
        check.due("one is dead", x, Check.year(x, ""), 0, 0, 1);
        check.due("nothing more to undo", x.count(10), 2);
        check.due("no month", x.count(2), 1);
        GiftsOfCourts none = new GiftsOfCourts();
        check.due("of a new object", none, none.year(), 0, 0, 0);
    }

    /** Promise 16: "-1 - p: the sign at p can't stand there", "nothing is done then". */
    private static void yearSignCantStand() {
        for (char sign = 0; sign < 256; sign++) {
            boolean begins = "smfpq".indexOf(sign) >= 0;
            boolean digit = sign >= '0' && sign <= '9';
            yearFault("m1" + sign, begins ? 3 : 2);
            for (String act : new String[] {"s02", "m1", "f01", "p021", "q021"}) {
                for (int p = 1; p < act.length(); p++) {
                    boolean fits = digit && (p < 3 || sign != '0');
                    if (!fits) {
                        yearFault(act.substring(0, p) + sign + act.substring(p + 1), p);
                        yearFault("m1" + act.substring(0, p) + sign + act.substring(p + 1), 2 + p);
                    }
                }
                if (!begins) {
                    yearFault(act + sign, act.length());
                }
            }
        }
    }

    /** Promise 16: "two digits", "a digit", "a digit 1 .. 9". */
    private static void yearDigits() {
        for (int digit = 0; digit <= 9; digit++) {
            GiftsOfCourts x = Check.alike(6, Check.lines("05,00", 8));
            check.due("m" + digit, x, Check.year(x, "m" + digit), 1, 0, 0);
            check.due("months", x.count(2), digit);
            int sent = digit < 8 ? 1 : 0;
            check.due("s" + digit + "1", x, Check.year(x, "s" + digit + "1"), sent, 1 - sent, 0);
            int gone = digit > 0 && digit < 6 ? 1 : 0;
            GiftsOfCourts y = Check.alike(6, Check.lines("05,00", 8));
            check.due("s0" + digit, y, Check.year(y, "s0" + digit), gone, 1 - gone, 0);
            check.due("f" + digit + "0", y, Check.year(y, "f" + digit + "0"), gone, 1 - gone, 0);
            check.due("p" + digit + "01", y, Check.year(y, "p" + digit + "01"), gone, 1 - gone, 0);
            check.due("p0" + digit + "1", y, Check.year(y, "p0" + digit + "1"), gone, 1 - gone, 0);
            if (digit == 0) {
                yearFault("p020", 3);
                yearFault("q020", 3);
            } else {
                check.due("p02" + digit, Check.year(y, "p02" + digit), 1);
                check.due("q03" + digit, Check.year(y, "q03" + digit), 1);
                check.due("so much less", y.between(0, 3, 0), 10 - digit + (digit == 3 ? 1 : 0));
            }
        }
        GiftsOfCourts z = Check.alike(6, "");
        Check.year(z, "p019q029");
        check.due("9 more", z.between(0, 1, 0), 19);
        check.due("9 less", z.between(0, 2, 0), 1);
    }

    /** Promise 16: "its end, if it ends too early". */
    private static void yearEndsTooEarly() {
        String whole = "s02m1f01p021q021";
        int[] ends = {3, 5, 8, 12, 16};
        for (int length = 1; length <= whole.length(); length++) {
            int acts = 0;
            for (int i = 0; i < ends.length; i++) {
                acts = ends[i] == length ? i + 1 : acts;
            }
            if (acts == 0) {
                yearFault(whole.substring(0, length), length);
            } else {
                // Gift 0 goes to 2; what 0 owes to 1 is forgiven.
                check.due("so many acts", Check.year(Check.busy(), whole.substring(0, length)), acts);
            }
        }
    }

    /** Promise 16: "60, if it has more and the first 60 could go on or end". */
    private static void yearMoreThan60() {
        check.due("sixty signs", SIXTY.length(), 60);
        check.due("sixty", Check.year(Check.busy(), SIXTY), 30);
        for (char sign : new char[] {'m', 's', '0', 'x', ';', 0, 255}) {
            yearFault(SIXTY + sign, 60);
        }
        yearFault(SIXTY + "m0", 60);
        yearFault("m0".repeat(40), 60);
        // The first 60 could go on, but not end.
        yearFault("m0".repeat(29) + "s02", 60);
        yearFault("m0".repeat(29) + "s0", 60);
        yearFault("m0".repeat(28) + "s02m1", 60);
        yearFault("m0".repeat(28) + "p0211", 60);
        yearFault("m0".repeat(28) + "s02s02", 60);
        // They could neither: the sign by which they can't is told.
        yearFault("m0".repeat(29) + "sxm1", 59);
        yearFault("m0".repeat(28) + "p020m1", 59);
        yearFault("x" + SIXTY, 0);
        check.due("59 signs", Check.year(Check.busy(), "m0".repeat(28) + "s02"), 29);
        check.due("60 signs of others", Check.year(Check.busy(), "m0".repeat(28) + "p021"), 29);
    }

    private static void yearFault(String text, int p) {
        check.refusedText("year of", ActsBoundsTest::lean, text, GiftsOfCourts::year, -1 - p);
    }

    /** Two gifts, a due of court 0 to court 1, and an act to undo: small, as it is looked at all over so often. */
    private static GiftsOfCourts lean() {
        GiftsOfCourts x = Check.alike(3, "15,20;06,01");
        x.send(1, 0);
        return x;
    }

    /** Promise 16: "they are done one by one, till one is refused (it answers below 0)". */
    private static void yearTillOneIsRefused() {
        String[] refused = {"s00", "s10", "s39", "s93", "f10", "f00", "f09", "p001", "p031", "q301", "q111"};
        for (String act : refused) {
            GiftsOfCourts x = lean();
            check.due("year of " + act, x, Check.year(x, act + "m1"), 0, 1, 0);
            check.due("the month behind it is not done", x.count(2), 0);
            check.due("nothing more to undo", x.count(10), 1);
            GiftsOfCourts y = lean();
            check.due("two acts ahead of " + act, y, Check.year(y, "m2m0" + act + "m1"), 2, 1, 0);
            check.due("the months ahead are done", y.count(2), 2);
            check.due("as one more to undo", y.count(10), 2);
        }
        GiftsOfCourts twice = lean();
        check.due("done once, refused then", twice, Check.year(twice, "s01s01m1"), 1, 1, 0);
        GiftsOfCourts paid = lean();
        check.due("forgiven once, refused then", paid, Check.year(paid, "f01f01m1"), 1, 1, 0);
        // All are done: none was refused. How many are dead then is told, not how many died.
        GiftsOfCourts dead = Check.busy();
        check.due("one dead", dead, Check.year(dead, "m0"), 1, 0, 1);
        GiftsOfCourts two = Check.realm("155555;155555", "15,90;45,91");
        two.sheet(3, 0, 0, 0);
        check.due("two dead, and one refused", two, Check.year(two, "m1s22"), 1, 1, 2);
    }

    /** Promise 17: "Refused: none." */
    private static void undoNone() {
        check.refused("a new object", GiftsOfCourts::new, GiftsOfCourts::undo, -1);
        check.refused("no act", () -> Check.alike(2, "15,90"), GiftsOfCourts::undo, -1);
        GiftsOfCourts x = Check.alike(2, "15,90");
        x.months(3);
        check.due("the only one", x.undo(), 0);
        check.due("none", x.undo(), -1);
        check.due("none still", x.undo(), -1);
        check.due("month", x.count(2), 0);
    }

    /** Promise 17: "of 15 that are kept, the latest ones". */
    private static void undoFifteen() {
        for (int acts = 1; acts <= 20; acts++) {
            GiftsOfCourts x = Check.alike(2, "");
            for (int i = 1; i <= acts; i++) {
                x.months(i);
            }
            int kept = Math.min(15, acts);
            check.due("of " + acts, x.count(10), kept);
            int month = acts * (acts + 1) / 2;
            for (int i = acts; i > acts - kept; i--) {
                month -= i;
                check.due("left of " + acts, x.undo(), i - 1 - acts + kept);
                check.due("month", x.count(2), month);
            }
            check.due("no more of " + acts, x.undo(), -1);
        }
    }

    /** Promise 17: "such as were done": a refused act is none to undo. */
    private static void undoSuchAsWereDone() {
        GiftsOfCourts x = Check.alike(2, "05,00");
        x.send(0, 0);
        x.send(1, 0);
        x.months(61);
        x.envoy(0, 1, 0);
        x.forgive(0, 1);
        x.forgive(0, 0);
        check.due("none was done", x.count(10), 0);
        x.send(0, 1);
        x.months(0);
        x.envoy(0, 1, 1);
        x.forgive(1, 0);
        check.due("each was done", x.count(10), 4);
        // 15 are there, and a refused one must not cost the first of them.
        for (int i = 0; i < 11; i++) {
            x.months(1);
        }
        x.send(0, 1);
        x.months(-1);
        Check.year(x, "s01m1");
        Check.year(x, "m1x");
        check.due("fifteen", x.count(10), 15);
        for (int i = 14; i >= 0; i--) {
            check.due("left", x.undo(), i);
        }
        check.due("who has it at last", x.gift(0, 3), 0);
    }

    /** Promise 17: "year() of which one act was done, as one". */
    private static void undoYearAsOne() {
        GiftsOfCourts x = Check.alike(3, "05,00");
        Check.year(x, "m1s01p121f10m2");
        check.due("one", x.count(10), 1);
        check.due("undone", x.undo(), 0);
        check.due("month", x.count(2), 0);
        check.due("gift", x.gift(0, 4), 1);
        check.due("esteem", x.between(1, 2, 0), 10);
        Check.year(x, "s00m1");
        check.due("none was done", x.count(10), 0);
        Check.year(x, "m1s00");
        check.due("one was done", x.count(10), 1);
        Check.year(x, "");
        check.due("nothing to do", x.count(10), 1);
        check.due("undone", x.undo(), 0);
        check.due("month", x.count(2), 0);
    }

    /** Promise 17: "(courts(), gifts() and again() forget them, if they are not refused; ..)". */
    private static void undoForgotten() {
        forgets("courts", "555555", 0);
        forgets("courts", "", 2);
        forgets("courts", "055555", 2);
        forgets("courts", Check.lines("555555", 4), 2);
        forgets("gifts", "05,00", 0);
        forgets("gifts", "", 2);
        forgets("gifts", "05,03", 2);
        forgets("gifts", Check.lines("05,00", 6), 2);
        forgets("rule", "w", 2);
        forgets("rule", "w+", 2);
        forgets("law", "w", 2);
        GiftsOfCourts kept = Check.busy();
        kept.again(0);
        check.due("nothing kept under 0", kept.count(10), 2);
        kept.again(3);
        check.due("no such number", kept.count(10), 2);
        kept.again(1);
        check.due("again", kept.count(10), 0);
        check.due("none", kept.undo(), -1);
        GiftsOfCourts others = Check.busy();
        others.keep(0);
        others.road(0, 1, 1);
        others.sheet(3, 0, 0, 0);
        others.heard(0, 0);
        others.forget();
        others.years(1, 60);
        check.due("others forget none", others.count(10), 2);
    }

    private static void forgets(String call, String text, int left) {
        GiftsOfCourts x = Check.tell(Check.busy(), text);
        switch (call) {
            case "courts" -> x.courts();
            case "gifts" -> x.gifts();
            case "rule" -> x.rule();
            default -> x.law();
        }
        check.due(call + " of '" + text + "' leaves", x.count(10), left);
        check.due(call + " of '" + text + "', then undo()", x.undo(), left - 1);
    }
}
