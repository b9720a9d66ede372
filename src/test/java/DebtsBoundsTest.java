/** The boundary cases of promises 29 to 33. */
final class DebtsBoundsTest {
    private static final Check check = new Check();
    private static final int MIN = Integer.MIN_VALUE;
    private static final int MAX = Integer.MAX_VALUE;

    public static void main(String[] args) {
        netBelowZero();
        netNoneSuch();
        settleNothing();
        settleFewest();
        ringShortest();
        ringLongest();
        ringDueAboveZero();
        ringEqualOnes();
        ringNone();
        ranksEqualOnes();
        ranksOneCourt();
        ranksNoCourts();
        leagueBy15();
        leagueOfAsMany();
        leagueOfOneAndNone();
        check.end();
    }

    /** Promise 29: "how much (below 0, too)". */
    private static void netBelowZero() {
        GiftsOfCourts x = Check.alike(3, "020,00;019,01;01,00");
        check.due("0 and 0", x, x.net(0), 0, 0, 0);
        x.send(0, 1);
        x.send(1, 2);
        check.due("above 0", x, x.net(0), 20, 20, 0);
        check.due("-1", x, x.net(1), -1, 19, 20);
        check.due("below 0", x, x.net(2), -19, 0, 19);
        GiftsOfCourts most = Check.alike(2, Check.lines("05,00", 8));
        Check.rule(most, "999");
        for (int g = 0; g < 8; g++) {
            most.send(g, 1);
        }
        check.due("the most", most, most.net(0), 7992, 7992, 0);
        check.due("the least", most, most.net(1), -7992, 0, 7992);
        GiftsOfCourts even = Check.alike(3, "020,00;020,01");
        even.send(0, 1);
        even.send(1, 2);
        check.due("both, and 0 together", even, even.net(1), 0, 20, 20);
    }

    /** Promise 29: "-100000: none such". */
    private static void netNoneSuch() {
        for (int court : new int[] {MIN, -1, 3, 6, MAX}) {
            check.refused("net(" + court + ")", Check::busy, x -> x.net(court), -100000);
        }
        check.due("no courts", new GiftsOfCourts().net(0), -100000);
        check.due("the last", Check.alike(6, "").net(5), 0);
        check.due("behind the last", Check.alike(6, "").net(6), -100000);
    }

    /** Promise 30: "that settle all nets (each net is 0 then)": none, if each is. */
    private static void settleNothing() {
        GiftsOfCourts none = new GiftsOfCourts();
        check.due("no courts", none, none.settle(), 0, 0);
        GiftsOfCourts x = Check.alike(3, "020,00;020,01;020,02;021,00");
        check.due("no dues", x, x.settle(), 0, 0);
        x.send(0, 1);
        x.send(1, 2);
        x.send(2, 0);
        check.due("three that cancel out", x, x.settle(), 0, 0);
        check.due("dues are there", x.count(7), 60);
        x.send(3, 1);
        check.due("one more due", x, x.settle(), 1, 2);
        x.forgive(1, 0);
        // 1 owes nothing to 0: it has 20 from 2, and 0 owes 20 to 2.
        check.due("forgiven", x, x.settle(), 1, 2);
    }

    /** Promise 30: "The fewest payments": as many less than courts as groups cancel out, each as small as can be. */
    private static void settleFewest() {
        settled("one due", new int[] {5, 0, 1}, 1, 2);
        settled("a chain of two like ones", new int[] {5, 0, 1, 5, 1, 2}, 1, 2);
        settled("one to two", new int[] {5, 0, 1, 6, 0, 2}, 2, 3);
        settled("two pairs", new int[] {5, 0, 1, 6, 2, 3}, 2, 4);
        settled("two pairs of like nets", new int[] {5, 0, 1, 5, 2, 3}, 2, 4);
        settled("three pairs", new int[] {5, 0, 1, 6, 2, 3, 7, 4, 5}, 3, 6);
        settled("two groups of three", new int[] {3, 0, 1, 4, 0, 2, 8, 3, 4, 9, 3, 5}, 4, 6);
        settled("a pair across", new int[] {3, 0, 1, 4, 0, 2, 4, 3, 4}, 3, 5);
        settled("all in one", new int[] {1, 0, 5, 2, 1, 5, 4, 2, 5, 8, 3, 5, 16, 4, 5}, 5, 6);
        settled("all in one but a pair", new int[] {1, 0, 5, 2, 1, 5, 4, 2, 5, 9, 3, 4}, 4, 6);
    }

    /** Of each three numbers: a due, to whom, who owes it. */
    private static void settled(String name, int[] dues, int payments, int open) {
        StringBuilder gifts = new StringBuilder();
        for (int i = 0; i < dues.length; i += 3) {
            gifts.append(i == 0 ? "0" : ";0").append(dues[i]).append(",0").append(dues[i + 1]);
        }
        GiftsOfCourts x = Check.alike(6, gifts.toString());
        for (int i = 0; i < dues.length; i += 3) {
            x.send(i / 3, dues[i + 2]);
        }
        check.due(name, x, x.settle(), payments, open);
    }

    /** Gift g goes from a court to the next one of a list, so each owes to the one ahead of it. */
    private static GiftsOfCourts owing(int... courts) {
        StringBuilder gifts = new StringBuilder();
        for (int i = 0; i < courts.length; i++) {
            gifts.append(i == 0 ? "0" : ";0").append(9 - i).append(",0").append(courts[i]);
        }
        GiftsOfCourts x = Check.alike(6, gifts.toString());
        for (int i = 0; i + 1 < courts.length; i++) {
            x.send(i, courts[i + 1]);
        }
        x.league();
        return x;
    }

    /** Promise 31: "The shortest ring": of three, ahead of four. */
    private static void ringShortest() {
        GiftsOfCourts x = owing(2, 1, 0, 2);
        check.due("three", x, x.ring(), 3, 0, 1, 2, 7);
        GiftsOfCourts four = owing(3, 2, 1, 0, 3, 1);
        // 0 owes to 1, 1 to 2, 2 to 3, 3 to 0; and 1 to 3.
        check.due("three, and four", four, four.ring(), 3, 0, 1, 3, 5);
        four.forgive(1, 3);
        check.due("four alone", four, four.ring(), 4, 0, 1, 2, 3, 6);
    }

    /** Promise 31: all six courts are the most. */
    private static void ringLongest() {
        GiftsOfCourts x = owing(5, 4, 3, 2, 1, 0, 5);
        check.due("six", x, x.ring(), 6, 0, 1, 2, 3, 4, 5, 4);
        check.due("numbers", x.count(11), 7);
        GiftsOfCourts back = owing(0, 1, 2, 3, 4, 5, 0);
        check.due("six, the other way", back, back.ring(), 6, 0, 5, 4, 3, 2, 1, 4);
    }

    /** Promise 31: "(DUE above 0)", "the least DUE of the ring". */
    private static void ringDueAboveZero() {
        GiftsOfCourts x = Check.alike(3, "01,02;05,01;09,00");
        x.send(0, 1);
        x.send(1, 0);
        x.send(2, 2);
        check.due("the least is 1", x, x.ring(), 3, 0, 1, 2, 1);
        GiftsOfCourts last = Check.alike(3, "05,02;09,01;01,00");
        last.send(0, 1);
        last.send(1, 0);
        last.send(2, 2);
        check.due("the last to the first is the least", last, last.ring(), 3, 0, 1, 2, 1);
        GiftsOfCourts zero = Check.alike(3, "01,02;05,01;09,00");
        Check.rule(zero, "w-1");
        zero.send(0, 1);
        zero.send(1, 0);
        zero.send(2, 2);
        check.due("a due of 0 is none", zero.ring(), -2);
    }

    /** Promise 31: "from the least one on (of as short ones the least row)". */
    private static void ringEqualOnes() {
        // 1 owes to 4, 4 to 5, 5 to 1; then 0 owes to 3, 3 to 2, 2 to 0; then 0 to 2 is not: 2 owes to 0.
        GiftsOfCourts x = Check.alike(6, "09,04;08,05;07,01;06,03;05,02;04,00");
        x.send(0, 1);
        x.send(1, 4);
        x.send(2, 5);
        check.due("from 1 on", x, x.ring(), 3, 1, 4, 5, 7);
        x.send(3, 0);
        x.send(4, 3);
        x.send(5, 2);
        check.due("from 0 on", x, x.ring(), 3, 0, 3, 2, 4);
    }

    /** Promise 31: "-2: there is none". */
    private static void ringNone() {
        check.refused("a chain of six", () -> owing(5, 4, 3, 2, 1, 0), GiftsOfCourts::ring, -2);
        check.refused("one due", Check::busy, GiftsOfCourts::ring, -2);
        check.refused("no courts", GiftsOfCourts::new, GiftsOfCourts::ring, -2);
        check.refused("one court", () -> Check.alike(1, "05,00"), GiftsOfCourts::ring, -2);
        // 1 owes to 0 and to 2, and these owe to none.
        check.refused("two ways out", () -> owing(0, 1), GiftsOfCourts::ring, -2);
    }

    /** Promise 32: "the first one (of equal ones the first)". */
    private static void ranksEqualOnes() {
        GiftsOfCourts x = Check.alike(6, "");
        check.due("all are equal", x, x.ranks(), 0, 0, 1, 2, 3, 4, 5, 50);
        x.envoy(0, 3, 1);
        check.due("one more for 3", x, x.ranks(), 3, 3, 0, 1, 2, 4, 5, 51);
        x.envoy(5, 1, 1);
        check.due("one more for 1", x, x.ranks(), 1, 1, 3, 0, 2, 4, 5, 51);
        x.envoy(1, 0, -1);
        check.due("one less for 0", x, x.ranks(), 1, 1, 3, 2, 4, 5, 0, 51);
        x.envoy(2, 4, 2);
        check.due("two more for 4", x, x.ranks(), 4, 4, 1, 3, 2, 5, 0, 52);
    }

    /** Promise 32: one court, for which no other one has ESTEEM; and two that have 0. */
    private static void ranksOneCourt() {
        GiftsOfCourts one = Check.alike(1, "");
        check.due("one court", one, one.ranks(), 0, 0, 0);
        GiftsOfCourts two = Check.alike(2, "");
        two.envoy(0, 1, -9);
        two.envoy(0, 1, -9);
        two.envoy(1, 0, -9);
        check.due("0 and 1", two, two.ranks(), 0, 0, 1, 1);
        two.envoy(1, 0, -9);
        check.due("0 and 0", two, two.ranks(), 0, 0, 1, 0);
    }

    /** Promise 32: "-2: there are no courts". */
    private static void ranksNoCourts() {
        check.refused("no courts", DebtsBoundsTest::toldOne, GiftsOfCourts::ranks, -2);
    }

    private static GiftsOfCourts toldOne() {
        GiftsOfCourts x = new GiftsOfCourts();
        x.settle();
        return x;
    }

    /** Promise 33: "of which each two are ALLIED". */
    private static void leagueBy15() {
        for (int one = 14; one <= 15; one++) {
            for (int other = 14; other <= 15; other++) {
                GiftsOfCourts x = Check.alike(3, "");
                x.envoy(1, 2, one - 10);
                x.envoy(2, 1, other - 10);
                boolean allied = one == 15 && other == 15;
                check.due("by " + one + " and " + other, x, x.league(), allied ? 2 : 1, allied ? 0b110 : 0b001);
            }
        }
        GiftsOfCourts six = Check.alike(6, "");
        for (int one = 0; one < 6; one++) {
            for (int other = 0; other < 6; other++) {
                six.envoy(one, other, 5);
            }
        }
        check.due("all six", six, six.league(), 6, 63);
        six.envoy(3, 5, -1);
        check.due("two that are not: the least bits", six, six.league(), 5, 0b011111);
    }

    /** Promise 33: "(bits: of as many the least)". */
    private static void leagueOfAsMany() {
        GiftsOfCourts x = Check.alike(6, "");
        ally(x, 4, 5);
        check.due("4 and 5", x, x.league(), 2, 0b110000);
        ally(x, 0, 5);
        check.due("0 and 5", x, x.league(), 2, 0b100001);
        ally(x, 3, 4);
        check.due("3 and 4", x, x.league(), 2, 0b011000);
        ally(x, 1, 2);
        check.due("1 and 2", x, x.league(), 2, 0b000110);
        ally(x, 3, 5);
        check.due("three are more", x, x.league(), 3, 0b111000);
    }

    /** Promise 33: one court is a league of its own; without courts there is none. */
    private static void leagueOfOneAndNone() {
        GiftsOfCourts none = new GiftsOfCourts();
        check.due("no courts", none, none.league(), 0, 0);
        GiftsOfCourts one = Check.alike(1, "");
        check.due("one court", one, one.league(), 1, 1);
        GiftsOfCourts six = Check.alike(6, "");
        check.due("none allied", six, six.league(), 1, 1);
    }

    private static void ally(GiftsOfCourts x, int one, int other) {
        x.envoy(one, other, 5);
        x.envoy(other, one, 5);
    }
}
