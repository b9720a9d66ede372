/** Promises 34 to 38: heard, forget, fits, ask, law. */
final class CluesTest {
    private static final Check check = new Check();

    public static void main(String[] args) {
        heard();
        fits();
        ask();
        law();
        check.end();
    }

    private static void heard() {
        GiftsOfCourts x = new GiftsOfCourts();
        int[][] wrong = {{-1, 0}, {4, 0}, {0, -1}, {0, 5}, {1, 0}, {1, 100}, {2, -1}, {2, 6}, {3, -1}, {3, 2}};
        for (int[] w : wrong) {
            check.due("refused", x.heard(w[0], w[1]), -1);
        }
        check.due("none", x.forget(), 0);
        int[][] right = {{0, 0}, {0, 4}, {1, 1}, {1, 99}, {2, 0}, {2, 5}, {3, 0}, {3, 1}, {3, 1}, {0, 2}, {2, 3}, {1, 7}};
        for (int i = 0; i < right.length; i++) {
            check.due("heard", x.heard(right[i][0], right[i][1]), i + 1);
            check.due("count(9)", x.count(9), i + 1);
        }
        check.due("twelve are there", x.heard(0, 0), -1);
        check.due("count(9)", x.count(9), 12);
        check.due("forgotten", x.forget(), 12);
        check.due("none", x.count(9), 0);
        check.due("again", x.heard(0, 0), 1);
        check.due("nothing told", x.count(11), 0);
    }

    private static void fits() {
        GiftsOfCourts x = Check.realm("155555;955555", "110,90;120,91;030,00;420,00");
        check.due("all", x, x.fits(), 15, 4, 80);
        x.heard(0, 1);
        check.due("beasts", x, x.fits(), 0b0011, 2, 30);
        x.forget();
        x.heard(1, 20);
        check.due("worth 20 or more", x, x.fits(), 0b1110, 3, 70);
        x.heard(2, 0);
        check.due("court 0 had it, too", x, x.fits(), 0b1100, 2, 50);
        x.send(1, 0);
        check.due("and one that came", x, x.fits(), 0b1110, 3, 70);
        x.send(2, 1);
        check.due("and one that went", x, x.fits(), 0b1110, 3, 70);
        x.heard(3, 1);
        check.due("none is dead", x, x.fits(), 0, 0, 0);
        x.sheet(3, 0, 0, 0);
        x.months(1);
        check.due("dead are 0 and 1", x, x.fits(), 0b0010, 1, 20);
        x.forget();
        x.heard(3, 0);
        check.due("alive", x, x.fits(), 0b1100, 2, 50);
        x.forget();
        x.heard(2, 5);
        check.due("a court that is not there", x, x.fits(), 0, 0, 0);
        x.forget();
        x.heard(0, 0);
        x.heard(0, 1);
        check.due("what can't be", x, x.fits(), 0, 0, 0);
        GiftsOfCourts none = new GiftsOfCourts();
        check.due("no gifts", none, none.fits(), 0, 0, 0);
    }

    private static void ask() {
        GiftsOfCourts none = new GiftsOfCourts();
        check.due("nothing there", none.ask(), -2);
        GiftsOfCourts x = Check.realm("555555;555555;555555", "");
        check.due("no gifts", x.ask(), -2);
        check.due("nothing told", x.count(11), 0);
        Check.gifts(x, "01,00;01,00;01,00;01,01;11,02;11,02");
        check.due("0: 3 and 3", x, x.ask(), 0, 3);
        GiftsOfCourts alike = Check.realm("555555;555555", "01,01;01,01;01,01;01,01;01,01;01,01;01,01;01,01");
        check.due("eight alike", alike, alike.ask(), 0, 8);
        x.heard(0, 1);
        check.due("all alike: the first", x, x.ask(), 0, 2);
        x.send(5, 1);
        check.due("1 parts them", x, x.ask(), 1, 1);
        x.heard(1, 2);
        check.due("none fits", x.ask(), -2);
        check.row("the row stays", x, 1);
        x.forget();
        x.send(3, 2);
        check.due("2: 3 and 3 too, but 0 is first", x, x.ask(), 0, 3);
        x.send(1, 1);
        x.undo();
        x.send(4, 0);
        check.due("0: 4 and 2; 1: 2 and 4; 2: 3 and 3", x, x.ask(), 2, 3);
    }

    private static void law() {
        GiftsOfCourts x = Check.realm("355555;755555", "020,00;130,31");
        check.due("none", x, Check.law(x, ""), 0, 50, 50);
        check.due("another", x, Check.law(x, "w+r"), 60 - 50, 60, 50);
        check.due("the court that has it", x, Check.law(x, "s*10+(r=s)"), 102 - 50, 102, 50);
        check.due("the rule is as it was", x.value(0, 1), 20);
        Check.rule(x, "e");
        check.due("by the rule", x, Check.law(x, ""), 47, 50, 3);
        check.due("less", x, Check.law(x, "0"), -3, 0, 3);
        check.due("each 999 at most", x, Check.law(x, "999+w"), 1995, 1998, 3);
        check.due("a fault", Check.law(x, "w+"), -10002);
        check.due("a fault at once", Check.law(x, "?"), -10000);
        check.due("a fault at the limit", Check.law(x, "-".repeat(41)), -10040);
        check.row("the row stays", x, 1998, 3);
        check.due("the rule is as it was still", x.value(1, 0), 3);
        check.due("text is read", x.count(12), 0);
        GiftsOfCourts none = new GiftsOfCourts();
        check.due("no gifts", none, Check.law(none, "5"), 0, 0, 0);
    }
}
