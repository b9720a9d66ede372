import java.util.LinkedHashMap;
import java.util.Map;
import java.util.function.ToLongFunction;

/** The boundary cases of promises 41 to 44, and of terms 2. */
final class KeptBoundsTest {
    private static final Check check = new Check();
    private static final int MIN = Integer.MIN_VALUE;
    private static final int MAX = Integer.MAX_VALUE;

    public static void main(String[] args) {
        keepNumbers();
        keepOthers();
        keepOnceMore();
        againNothingKept();
        againCourtsOrGiftsCame();
        againWhatIsKept();
        countAnotherWhat();
        countLimits();
        fullRealm();
        rowNoneSuch();
        rowToldLast();
        questionsChangeNothing();
        readingEmptiesTheText();
        check.end();
    }

    /** Promise 41: "under a number 0 .. 2: true". */
    private static void keepNumbers() {
        GiftsOfCourts x = Check.alike(2, "");
        for (int i = 0; i < 3; i++) {
            x.months(1);
            check.due("keep(" + i + ")", x.keep(i), true);
        }
        for (int i = 2; i >= 0; i--) {
            check.due("again(" + i + ")", x.again(i), true);
            check.due("each its own", x.count(2), i + 1);
        }
        GiftsOfCourts none = new GiftsOfCourts();
        check.due("without courts", none.keep(0), true);
        check.due("again", none.again(0), true);
    }

    /** Promise 41: "Refused: others." */
    private static void keepOthers() {
        for (int i : new int[] {MIN, -32, -1, 3, 4, 32, 33, 34, 256, MAX}) {
            check.refused("keep(" + i + ")", Check::busy, x -> x.keep(i) ? 1 : 0, 0);
        }
    }

    /** Promise 41: a number that is kept once more has the latest alone. */
    private static void keepOnceMore() {
        GiftsOfCourts x = Check.alike(2, "");
        x.keep(2);
        x.months(5);
        x.keep(2);
        x.months(5);
        x.again(2);
        check.due("the latest", x.count(2), 5);
        check.due("others are not kept by it", x.again(1), false);
    }

    /** Promise 42: "Refused: nothing kept", and numbers that are none. */
    private static void againNothingKept() {
        for (int i : new int[] {MIN, MIN + 1, -31, -1, 0, 2, 3, 31, 32, 33, 34, 65, 256, 257, MAX}) {
            check.refused("again(" + i + ")", Check::busy, x -> x.again(i) ? 1 : 0, 0);
        }
        check.due("again(1)", Check.busy().again(1), true);
        for (int i = 0; i < 3; i++) {
            check.due("of a new object", new GiftsOfCourts().again(i), false);
        }
    }

    /** Promise 42: "Refused: .. COURTS or GIFTS came since." */
    private static void againCourtsOrGiftsCame() {
        GiftsOfCourts courts = Check.busy();
        check.due("a court came", Check.courts(courts, "555555"), 1);
        check.due("again", courts.again(1), false);
        check.due("month", courts.count(2), 1);
        courts.keep(0);
        check.due("kept since", courts.again(0), true);
        check.due("that one not", courts.again(1), false);
        GiftsOfCourts gifts = Check.busy();
        check.due("a gift came", Check.gifts(gifts, "05,00"), 1);
        check.due("again", gifts.again(1), false);
        gifts.keep(1);
        check.due("kept since", gifts.again(1), true);
        GiftsOfCourts none = Check.busy();
        Check.courts(none, "");
        Check.gifts(none, "");
        Check.courts(none, "055555");
        Check.gifts(none, "05,09");
        Check.courts(none, Check.lines("555555", 4));
        Check.gifts(none, Check.lines("05,00", 6));
        check.due("none came", none.again(1), true);
    }

    /** Promise 42: "They are as they were kept": GRAIN, ESTEEM, DUE, who has and HAD what, what is DEAD, MONTH. */
    private static void againWhatIsKept() {
        GiftsOfCourts x = Check.busy();
        x.keep(0);
        Check.rule(x, "5");
        x.road(0, 1, 9);
        x.heard(0, 1);
        x.sheet(2, 3, 70, 1);
        x.envoy(0, 1, 3);
        x.send(1, 2);
        x.send(0, 2);
        x.forgive(0, 1);
        x.months(60);
        x.league();
        check.due("again", x.again(0), true);
        int[] due = {3, 3, 1, 26 + 55, 1, 0, 0, 31, 1, 2, 0, 1, 0};
        for (int what = 0; what < due.length; what++) {
            check.due("count(" + what + ")", x.count(what), due[what]);
        }
        check.due("grain 0", x.court(0, 1), 0);
        check.due("grain 1", x.court(1, 1), 26);
        check.due("grain 2", x.court(2, 1), 55);
        check.due("esteem", x.between(0, 1, 0), 12);
        check.due("who has it", x.gift(1, 3), 0);
        check.due("who had it", x.gift(1, 4), 3);
        check.due("a road is as it is", x.between(0, 1, 2), 9);
        check.due("the rule is as it is", x.value(0, 0), 5);
        check.row("the row is as it is", x, 1);
    }

    /** Promise 43: "-100 for another what". */
    private static void countAnotherWhat() {
        for (int what : new int[] {MIN, -100, -2, -1, 13, 14, 100, MAX}) {
            check.refused("count(" + what + ")", Check::busy, x -> x.count(what), -100);
        }
        GiftsOfCourts x = Check.busy();
        for (int what = 0; what <= 12; what++) {
            check.due("count(" + what + ") is there", x.count(what) >= 0, true);
        }
    }

    /** Promise 43, at the most of each. */
    private static void countLimits() {
        GiftsOfCourts x = Check.alike(6, Check.lines("19,90", 8));
        for (int one = 0; one < 6; one++) {
            for (int other = 0; other < one; other++) {
                x.road(one, other, 9);
                x.envoy(one, other, 9);
                x.envoy(other, one, 9);
            }
        }
        check.due("all are allied", x.count(5), 15);
        check.due("none is at war", x.count(6), 0);
        check.due("roads", x.count(8), 15);
        x.sheet(2, 6, 999, 0);
        check.due("grain", x.count(3), 5994);
        for (int one = 0; one < 6; one++) {
            for (int other = 0; other < one; other++) {
                x.envoy(one, other, -9);
                x.envoy(one, other, -9);
                x.envoy(one, other, -9);
            }
        }
        check.due("none is allied", x.count(5), 0);
        check.due("all are at war", x.count(6), 15);
        x.sheet(3, 0, 0, 0);
        x.months(60);
        check.due("dead", x.count(4), 254);
        x.sheet(3, 0, 0, 0);
        Check.gifts(x, "");
        check.due("gifts", x.count(1), 8);
        check.due("courts", x.count(0), 6);
        check.due("what can be undone", x.count(10), 15);
    }

    /** Terms 1: six courts and eight GIFTS, the most of both: all that can be asked of them. */
    private static void fullRealm() {
        GiftsOfCourts x = Check.realm(Check.lines("555555", 4) + ";155555;555555", Check.lines("19,95", 8));
        check.due("where", x, x.where(7), 0, 9, 9);
        check.due("answer", x, x.answer(5, 0), 0, 12, 9);
        check.due("answer without a gift", x.answer(0, 5), -2);
        check.due("wins", x, x.wins(5, 4), 3, 0, 1, 2);
        check.due("unseen", x, x.unseen(7), 0b011111, 5);
        check.due("swaps", x, x.swaps(), 0);
        check.due("no way", x.way(0, 5), -2);
        // 60 of grain are eaten by six of them, 9 each, and 6 are too few for the next one.
        check.due("feeds", x, x.feeds(5), 1, 6, 0);
        check.due("starves", x, x.starves(5, 4), 0, 8);
        check.due("settle", x, x.settle(), 0, 0);
        check.due("ring", x.ring(), -2);
        check.due("league", x, x.league(), 1, 1);
        check.due("fits", x, x.fits(), 255, 8, 72);
        check.due("ask", x, x.ask(), 0, 8);
        check.due("law", x, Check.law(x, "w+1"), 8, 80, 72);
        for (int g = 0; g < 5; g++) {
            x.send(g, g);
        }
        check.due("net of the last", x, x.net(5), 45, 45, 0);
        check.due("settle", x, x.settle(), 5, 6);
        check.due("what each owes", x.court(4, 5), 9);
        check.due("what all owe", x.count(7), 45);
        check.due("fits", x, x.fits(), 255, 8, 72);
        check.due("ask", x, x.ask(), 0, 7);
        check.due("ranks", x, x.ranks(), 5, 5, 0, 1, 2, 3, 4, 60);
        check.due("months", x, x.months(1), 0, 0, 50 * 6 + 10 * 5 + 2 - 72);
    }

    /** Promise 44: "NoSuchElementException: none such". */
    private static void rowNoneSuch() {
        for (int size = 0; size <= 7; size++) {
            GiftsOfCourts x = Check.alike(Math.max(1, size - 1), "");
            if (size == 0) {
                check.due("nothing told", x.count(11), 0);
            } else if (size == 1) {
                x.league();
            } else {
                x.ranks();
            }
            check.due("numbers", x.count(11), size);
            for (int i = -2; i <= 9; i++) {
                int asked = i;
                if (i < 0 || i >= size) {
                    check.noSuch("row(" + i + ") of " + size, () -> x.row(asked));
                } else if (size > 1) {
                    check.due("row(" + i + ") of " + size, x.row(i), i < size - 1 ? i : 10L * (size - 2));
                }
            }
        }
        for (int i : new int[] {MIN, -1, 2, 3, 8, MAX}) {
            check.refusedThrowing("row(" + i + ")", Check::busy, x -> x.row(i));
        }
        check.due("the last number", Check.busy().row(1), 31);
    }

    /** Terms 2: "ROW: numbers told last by a call that says so": others leave it as it is. */
    private static void rowToldLast() {
        Map<String, ToLongFunction<GiftsOfCourts>> silent = new LinkedHashMap<>();
        silent.put("sign", x -> x.sign(0));
        silent.put("end", x -> x.end(0) ? 1 : 0);
        silent.put("courts", x -> Check.courts(x, "555555"));
        silent.put("gifts", x -> Check.gifts(x, "05,00"));
        silent.put("rule", x -> Check.rule(x, "w"));
        silent.put("court", x -> x.court(0, 0));
        silent.put("between", x -> x.between(0, 1, 0));
        silent.put("gift", x -> x.gift(0, 0));
        silent.put("road", x -> x.road(0, 1, 1));
        silent.put("sheet", x -> x.sheet(2, 3, 1, 1));
        silent.put("envoy", x -> x.envoy(0, 1, 1));
        silent.put("forgive", x -> x.forgive(0, 1));
        silent.put("undo", GiftsOfCourts::undo);
        silent.put("value", x -> x.value(0, 0));
        silent.put("walks", x -> x.walks(0, 1, 1, 9));
        silent.put("heard", x -> x.heard(0, 0));
        silent.put("forget", GiftsOfCourts::forget);
        silent.put("keep", x -> x.keep(0) ? 1 : 0);
        silent.put("again", x -> x.again(1) ? 1 : 0);
        silent.put("count", x -> x.count(0));
        silent.put("row", x -> x.row(0));
        for (Map.Entry<String, ToLongFunction<GiftsOfCourts>> call : silent.entrySet()) {
            GiftsOfCourts x = Check.busy();
            check.due(call.getKey() + " is not refused", call.getValue().applyAsLong(x) >= 0, true);
            check.row("behind " + call.getKey(), x, 0, 31);
        }
    }

    /** Terms 2: "Questions change nothing." */
    private static void questionsChangeNothing() {
        Map<String, ToLongFunction<GiftsOfCourts>> questions = new LinkedHashMap<>();
        questions.put("value", x -> x.value(0, 1));
        questions.put("where", x -> x.where(1));
        questions.put("answer", x -> x.answer(0, 1));
        questions.put("wins", x -> x.wins(0, 2));
        questions.put("unseen", x -> x.unseen(1));
        questions.put("swaps", GiftsOfCourts::swaps);
        questions.put("way", x -> x.way(0, 1));
        questions.put("walks", x -> x.walks(0, 1, 1, 9));
        questions.put("alive", x -> x.alive(0, 1, 5));
        questions.put("feeds", x -> x.feeds(2));
        questions.put("starves", x -> x.starves(2, 1));
        questions.put("net", x -> x.net(1));
        questions.put("settle", GiftsOfCourts::settle);
        questions.put("ring", GiftsOfCourts::ring);
        questions.put("ranks", GiftsOfCourts::ranks);
        questions.put("league", GiftsOfCourts::league);
        questions.put("fits", GiftsOfCourts::fits);
        questions.put("ask", GiftsOfCourts::ask);
        questions.put("rests", x -> x.rests(9));
        questions.put("years", x -> x.years(3, 60));
        questions.put("court", x -> x.court(0, 5));
        questions.put("between", x -> x.between(0, 1, 2));
        questions.put("gift", x -> x.gift(0, 5));
        questions.put("count", x -> x.count(7));
        questions.put("row", x -> x.row(0));
        for (Map.Entry<String, ToLongFunction<GiftsOfCourts>> call : questions.entrySet()) {
            check.question(call.getKey(), Check::busy, call.getValue());
        }
    }

    /** Terms 2: "THE TEXT, which a call that reads it empties", refused or not; others leave it. */
    private static void readingEmptiesTheText() {
        Map<String, ToLongFunction<GiftsOfCourts>> readers = new LinkedHashMap<>();
        readers.put("courts", GiftsOfCourts::courts);
        readers.put("gifts", GiftsOfCourts::gifts);
        readers.put("rule", GiftsOfCourts::rule);
        readers.put("year", GiftsOfCourts::year);
        readers.put("law", GiftsOfCourts::law);
        for (Map.Entry<String, ToLongFunction<GiftsOfCourts>> call : readers.entrySet()) {
            for (String text : new String[] {"555555", "05,00", "w", "m1", "?", "", "7".repeat(80)}) {
                GiftsOfCourts x = Check.tell(Check.busy(), text);
                call.getValue().applyAsLong(x);
                check.due("signs behind " + call.getKey() + " of '" + text + "'", x.count(12), 0);
                check.due("and it begins anew", x.sign(0), 4);
            }
        }
        GiftsOfCourts x = Check.busy();
        x.send(1, 2);
        x.months(1);
        x.envoy(0, 1, 1);
        x.undo();
        x.keep(0);
        x.again(0);
        x.sheet(3, 0, 0, 0);
        x.forget();
        check.due("others leave it", x.count(12), 3);
        check.due("as it was", x.rule(), 0);
        check.due("7+w", x.value(0, 0), 27);
    }
}
