/** Promises 41 to 44: keep, again, count, row. */
final class KeptTest {
    private static final Check check = new Check();

    public static void main(String[] args) {
        keep();
        again();
        againRefused();
        count();
        row();
        check.end();
    }

    private static void keep() {
        GiftsOfCourts x = new GiftsOfCourts();
        check.due("-1", x.keep(-1), false);
        check.due("3", x.keep(3), false);
        for (int i = 0; i < 3; i++) {
            check.due("nothing kept", x.again(i), false);
            check.due("keep", x.keep(i), true);
            check.due("again", x.again(i), true);
        }
        check.due("again(-1)", x.again(-1), false);
        check.due("again(3)", x.again(3), false);
    }

    private static void again() {
        GiftsOfCourts x = Check.realm("155555;555555", "120,90;030,00");
        x.keep(0);
        x.send(0, 1);
        x.envoy(0, 1, 5);
        x.keep(1);
        x.sheet(3, 0, 0, 0);
        x.send(0, 0);
        x.months(2);
        x.forgive(1, 0);
        check.due("dead", x.count(4), 1);
        check.due("acts", x.count(10), 5);
        check.due("again 1", x.again(1), true);
        check.due("alive", x.count(4), 0);
        check.due("grain", x.count(3), 100);
        check.due("month", x.count(2), 0);
        check.due("who has it", x.gift(0, 3), 1);
        check.due("who had it", x.gift(0, 4), 3);
        check.due("due", x.between(1, 0, 1), 20);
        check.due("esteem", x.between(0, 1, 0), 15);
        check.due("nothing to undo", x.count(10), 0);
        check.due("again 0", x.again(0), true);
        check.due("who had it", x.gift(0, 4), 1);
        check.due("due", x.between(1, 0, 1), 0);
        check.due("esteem", x.between(0, 1, 0), 10);
        check.due("once more", x.again(1), true);
        check.due("who had it", x.gift(0, 4), 3);
        x.months(1);
        x.keep(1);
        x.months(1);
        x.again(1);
        check.due("the latest kept", x.count(2), 1);
        x.road(0, 1, 3);
        x.heard(0, 1);
        Check.rule(x, "9");
        x.again(0);
        check.due("roads stay", x.count(8), 1);
        check.due("what was heard stays", x.count(9), 1);
        check.due("the rule stays", x.value(0, 0), 9);
    }

    private static void againRefused() {
        GiftsOfCourts x = Check.realm("155555;555555", "120,90");
        x.keep(0);
        x.keep(2);
        x.months(1);
        check.due("nothing under 1", x.again(1), false);
        check.due("months stay", x.count(2), 1);
        check.due("they can be undone", x.count(10), 1);
        Check.courts(x, "");
        Check.gifts(x, "");
        Check.courts(x, "0");
        Check.gifts(x, "9");
        check.due("none came", x.again(0), true);
        x.months(1);
        Check.gifts(x, "010,00");
        check.due("gifts came", x.again(0), false);
        check.due("gifts came", x.again(2), false);
        x.keep(0);
        check.due("kept anew", x.again(0), true);
        check.due("the other one not", x.again(2), false);
        Check.courts(x, "555555");
        check.due("courts came", x.again(0), false);
        check.due("month stays", x.count(2), 1);
    }

    private static void count() {
        GiftsOfCourts x = Check.realm("155555;555555;555555", "120,90;010,00");
        x.road(0, 1, 2);
        x.road(1, 2, 2);
        x.envoy(0, 1, 5);
        x.envoy(1, 0, 5);
        x.envoy(1, 2, -9);
        x.envoy(1, 2, -9);
        x.envoy(2, 1, -9);
        x.envoy(2, 1, -9);
        x.envoy(0, 2, -9);
        x.envoy(0, 2, -9);
        x.send(1, 2);
        x.sheet(3, 0, 0, 0);
        x.months(1);
        x.heard(0, 0);
        x.heard(0, 0);
        x.sign(0);
        x.end(3);
        int[] due = {3, 2, 1, 20, 1, 1, 2, 10, 2, 2, 10, 2, 3};
        for (int what = 0; what < due.length; what++) {
            check.due("count(" + what + ")", x.count(what), due[what]);
        }
        for (int what : new int[] {-1, 13, 14, 100, Integer.MIN_VALUE, Integer.MAX_VALUE}) {
            check.due("count(" + what + ")", x.count(what), -100);
        }
    }

    private static void row() {
        GiftsOfCourts x = Check.realm("555555;555555;555555;555555;555555;555555", "");
        check.row("nothing told", x);
        x.ranks();
        check.row("seven numbers", x, 0, 1, 2, 3, 4, 5, 50);
        check.due("count(11)", x.count(11), 7);
        x.league();
        check.row("one number", x, 1);
        x.court(0, 0);
        x.envoy(0, 1, 1);
        x.walks(0, 0, 1, 1);
        x.undo();
        x.forget();
        x.keep(0);
        x.again(0);
        x.wins(0, 9);
        check.row("others leave it alone", x, 1);
        x.wins(0, 1);
        check.row("in vain", x, 1);
        check.noSuch("row(max)", () -> x.row(Integer.MAX_VALUE));
        check.noSuch("row(min)", () -> x.row(Integer.MIN_VALUE));
    }
}
