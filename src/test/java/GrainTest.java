/** Promises 27 and 28: feeds, starves. */
final class GrainTest {
    private static final Check check = new Check();

    public static void main(String[] args) {
        feeds();
        feedsSeveral();
        starves();
        starvesTies();
        check.end();
    }

    private static void feeds() {
        GiftsOfCourts x = Check.realm("155555;955555", "120,90;020,90;120,91");
        check.due("none such", x.feeds(-1), -1);
        check.due("none such", x.feeds(2), -1);
        check.due("never", x.feeds(1), -2);
        check.due("nothing told", x.count(11), 0);
        // 50 and 2 more, 9 less a month: 1 is left behind the seventh, 3 are less than 9 in the eighth.
        check.due("in the eighth", x, x.feeds(0), 8, 0, 0);
        check.due("nothing changes", x.count(2) * 1000 + x.court(0, 1), 50);
        x.months(7);
        check.due("in the first", x, x.feeds(0), 1, 0, 0);
        x.months(1);
        check.due("dead ones do not die", x.feeds(0), -2);
        GiftsOfCourts last = Check.realm("155555", "120,30");
        last.sheet(2, 1, 98, 0);
        check.due("in the 99th", last, last.feeds(0), 99, 0, 0);
        last.sheet(2, 1, 99, 0);
        check.due("not in 99", last.feeds(0), -2);
    }

    private static void feedsSeveral() {
        GiftsOfCourts x = Check.realm("155555;155555", "115,30;420,70;120,70;11,10;19,91");
        x.sheet(2, 2, 4, 0);
        // 6: gift 0 eats 3, gift 1 finds 3 and dies, gift 2 finds nothing, gift 3 nothing.
        check.due("the first of those that die", x, x.feeds(0), 1, 1, 0);
        check.due("others' gifts die for others", x, x.feeds(1), 1, 4, 0);
        GiftsOfCourts y = Check.realm("355555", "120,90;19,20;11,00");
        y.sheet(2, 1, 4, 0);
        // 10 and 9 and 2: the second dies in the first month, of what the first one left.
        check.due("who eats behind goes without", y, y.feeds(0), 1, 1, 0);
        y.sheet(2, 1, 10, 0);
        // 16, 11 less: 5; then 11, 11 less: 0; then 6.
        check.due("in the third", y, y.feeds(0), 3, 0, 0);
    }

    private static void starves() {
        GiftsOfCourts x = Check.realm("555555;155555;955555", "120,30;120,90;020,90;420,50;120,01");
        check.due("none such", x.starves(0, 3), -1);
        check.due("none such", x.starves(-1, 0), -1);
        check.due("like ones", x.starves(1, 1), -1);
        // 50 in court 1, 2 more a month: with 9 a month it lasts seven, with 5 sixteen.
        check.due("the one that eats the most", x, x.starves(0, 1), 1, 8);
        check.due("none by these", x.starves(0, 2), -2);
        check.row("the row stays", x, 8);
        check.due("of one that has none that eats", x.starves(2, 0), -2);
        // Court 0 has 10 more and 17 less a month.
        check.due("one that eats nothing, where they starve anyhow", x, x.starves(1, 0), 4, 8);
        check.due("nothing changes", x.gift(1, 3) * 100 + x.gift(1, 4) * 10 + x.count(2), 10);
    }

    private static void starvesTies() {
        GiftsOfCourts x = Check.realm("955555;155555", "020,90;120,40;120,90;120,31;420,90");
        x.sheet(2, 2, 50, -50);
        check.due("it starves anyhow: the first", x, x.starves(0, 1), 1, 1);
        x.sheet(2, 2, 50, -40);
        // Court 1 has 10: with 3 and 4 a month they die in the third, with 3 and 9 in the second.
        check.due("of equal ones the first", x, x.starves(0, 1), 2, 2);
        GiftsOfCourts dead = Check.realm("155555;155555", "120,90;120,20");
        dead.sheet(3, 0, 0, 0);
        dead.months(1);
        check.due("dead", dead.count(4), 3);
        check.due("dead ones starve none", dead.starves(0, 1), -2);
        GiftsOfCourts last = Check.realm("555555;155555", "120,30");
        last.sheet(2, 2, 98, 0);
        check.due("in the 99th", last, last.starves(0, 1), 0, 99);
        last.sheet(2, 2, 97, 0);
        check.due("in the 98th", last, last.starves(0, 1), 0, 98);
        last.sheet(2, 2, 99, 0);
        check.due("not in 99", last.starves(0, 1), -2);
        GiftsOfCourts bear = Check.realm("155555;155555", "220,90;420,90;320,90");
        check.due("a bear alone", bear, bear.starves(0, 1), 1, 8);
    }
}
