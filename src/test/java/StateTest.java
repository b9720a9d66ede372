/** Promises 7 to 11: court, between, gift, road, sheet. */
final class StateTest {
    private static final Check check = new Check();

    public static void main(String[] args) {
        court();
        between();
        gift();
        road();
        sheet();
        sheetEdges();
        check.end();
    }

    private static void court() {
        GiftsOfCourts x = Check.realm("312345;967890;555555", "010,00;120,31;230,00");
        check.due("rank", x.court(1, 0), 9);
        check.due("grain", x.court(1, 1), 50);
        check.due("gifts of 0", x.court(0, 2), 0b101);
        check.due("gifts of 1", x.court(1, 2), 0b010);
        check.due("gifts of 2", x.court(2, 2), 0);
        check.due("tastes", x.court(1, 10) * 10000 + x.court(1, 11) * 1000 + x.court(1, 12) * 100
                + x.court(1, 13) * 10 + x.court(1, 14), 67890);
        check.due("no allies", x.court(0, 3), 0);
        x.envoy(0, 1, 5);
        check.due("not by one alone", x.court(0, 3), 0);
        x.envoy(1, 0, 4);
        check.due("not by 14", x.court(0, 3), 0);
        x.envoy(1, 0, 1);
        check.due("allied", x.court(0, 3), 0b010);
        check.due("the other one too", x.court(1, 3), 0b001);
        check.due("no war", x.court(2, 4), 0);
        x.envoy(2, 0, -9);
        check.due("no war by 1", x.court(2, 4), 0);
        x.envoy(2, 0, -1);
        check.due("war by one", x.court(2, 4), 0b001);
        check.due("war of the other", x.court(0, 4), 0b100);
        check.due("owes nothing", x.court(1, 5), 0);
        x.send(0, 1);
        x.send(2, 1);
        x.send(1, 2);
        check.due("owes both values", x.court(1, 5), 10 * 6 / 5 + 30 * 8 / 5);
        check.due("others owe", x.court(2, 5), 20 * 5 / 5);
        check.due("gifts of 1 then", x.court(1, 2), 0b101);
        for (int what : new int[] {-1, 6, 7, 8, 9, 15, Integer.MAX_VALUE, Integer.MIN_VALUE}) {
            check.noSuch("court(0, " + what + ")", () -> x.court(0, what));
        }
        for (int court : new int[] {-1, 3, 6, Integer.MAX_VALUE, Integer.MIN_VALUE}) {
            check.noSuch("court(" + court + ", 0)", () -> x.court(court, 0));
        }
    }

    private static void between() {
        GiftsOfCourts x = Check.realm("555555;555555;555555", "010,00");
        x.envoy(0, 1, 3);
        x.send(0, 2);
        x.road(1, 2, 7);
        check.due("esteem of the first", x.between(0, 1, 0), 13);
        check.due("esteem of the second", x.between(1, 0, 0), 10);
        check.due("due of the first", x.between(2, 0, 1), 10);
        check.due("due of the second", x.between(0, 2, 1), 0);
        check.due("road", x.between(1, 2, 2), 7);
        check.due("road back", x.between(2, 1, 2), 7);
        check.due("no road", x.between(0, 1, 2), -1);
        int[][] wrong = {{0, 0, 0}, {1, 1, 2}, {-1, 0, 0}, {0, -1, 0}, {3, 0, 0}, {0, 3, 0}, {0, 1, 3}, {0, 1, -1}};
        for (int[] w : wrong) {
            check.noSuch("between", () -> x.between(w[0], w[1], w[2]));
        }
    }

    private static void gift() {
        GiftsOfCourts x = Check.realm("111111;222222", "412,91;05,30");
        check.due("kind", x.gift(0, 0), 4);
        check.due("worth", x.gift(0, 1), 12);
        check.due("eats", x.gift(0, 2), 9);
        check.due("eats of a thing", x.gift(1, 2), 3);
        check.due("who has it", x.gift(0, 3), 1);
        check.due("who had it", x.gift(0, 4), 2);
        check.due("alive", x.gift(0, 5), 0);
        x.send(0, 0);
        check.due("who has it then", x.gift(0, 3), 0);
        check.due("who had it then", x.gift(0, 4), 3);
        x.sheet(3, 0, 0, 0);
        x.months(1);
        check.due("dead", x.gift(0, 5), 1);
        check.due("a thing lives", x.gift(1, 5), 0);
        int[][] wrong = {{-1, 0}, {2, 0}, {8, 0}, {0, -1}, {0, 6}};
        for (int[] w : wrong) {
            check.noSuch("gift", () -> x.gift(w[0], w[1]));
        }
    }

    private static void road() {
        GiftsOfCourts x = Check.realm("111111;222222;333333", "");
        check.due("had none", x.road(0, 1, 4), 0);
        check.due("had 4, told from the other side", x.road(1, 0, 9), 4);
        check.due("one road", x.count(8), 1);
        check.due("had 9", x.road(0, 1, 0), 9);
        check.due("no road", x.between(0, 1, 2), -1);
        check.due("none", x.count(8), 0);
        check.due("none again", x.road(0, 1, 0), 0);
        check.due("the shortest", x.road(0, 1, 1), 0);
        check.due("it counts", x.count(8), 1);
        check.due("and is there", x.road(0, 1, 0), 1);
        int[][] wrong = {{0, 0, 1}, {0, 3, 1}, {-1, 0, 1}, {0, -1, 1}, {3, 0, 1}, {0, 1, -1}, {0, 1, 10}};
        for (int[] w : wrong) {
            check.due("road refused", x.road(w[0], w[1], w[2]), -1);
        }
        check.due("none still", x.count(8), 0);
        check.due("roads are not to be undone", x.undo(), -1);
    }

    private static void sheet() {
        GiftsOfCourts x = Check.realm("111111;222222;333333", "");
        check.due("bytes", x.sheet(0, 3, 100, 20), 100 + 120 + 0);
        grain(x, 100, 120, 0);
        check.due("bytes with the lowest bits", x.sheet(0, 3, 256 + 5, 256), 15);
        grain(x, 5, 5, 5);
        check.due("shorts", x.sheet(1, 3, 900, 90), 900 + 990 + 999);
        grain(x, 900, 990, 999);
        check.due("shorts with their sign", x.sheet(1, 2, 32767, 1), 999);
        grain(x, 999, 0, 0);
        check.due("shorts with the lowest bits", x.sheet(1, 2, 65536 + 7, 65536), 14);
        check.due("ints", x.sheet(2, 3, -5, 10), 5 + 15);
        grain(x, 0, 5, 15);
        check.due("ints past their end", x.sheet(2, 2, Integer.MAX_VALUE, 1), 999);
        grain(x, 999, 0, 0);
        check.due("those behind have 0", x.sheet(2, 1, 40, 1), 40);
        grain(x, 40, 0, 0);
        check.due("more entries than courts", x.sheet(2, 6, 10, 10), 60);
        grain(x, 10, 20, 30);
        check.due("no entries", x.sheet(1, 0, 7, 7), 0);
        grain(x, 0, 0, 0);
    }

    private static void sheetEdges() {
        GiftsOfCourts x = Check.realm("111111;222222;333333", "");
        for (int kind = 0; kind < 3; kind++) {
            check.due("n below 0", x.sheet(kind, -1, 1, 1), -2);
            check.due("n far below 0", x.sheet(kind, Integer.MIN_VALUE, 1, 1), -2);
        }
        check.due("another kind first", x.sheet(4, -1, 1, 1), -1);
        check.due("another kind below", x.sheet(-1, -1, 1, 1), -1);
        for (int kind = -1; kind < 5; kind++) {
            check.due("n above 6", x.sheet(kind, 7, 1, 1), -1);
        }
        grain(x, 50, 50, 50);
        check.due("missing", x.sheet(3, 2, 9, 9), -3);
        grain(x, 0, 0, 0);
        x.sheet(2, 3, 9, 0);
        check.due("missing, whatever n below", x.sheet(3, -4, 9, 9), -3);
        grain(x, 0, 0, 0);
        check.due("sheets are not to be undone", x.undo(), -1);
        check.due("nothing was told", x.count(11), 0);
    }

    private static void grain(GiftsOfCourts x, int... want) {
        for (int c = 0; c < want.length; c++) {
            check.due("grain of " + c, x.court(c, 1), want[c]);
        }
    }
}
