/**
 * The boundary cases of promises 1 to 5, and of terms 1 as far as courts and gifts are told by a text: each method
 * holds the sentence that stands above it, on both sides of the boundary.
 */
final class TextBoundsTest {
    private static final Check check = new Check();
    /** The neighbours of the digits among them, and signs that other texts know. */
    private static final char[] NO_DIGITS = {'/', ':', ' ', ';', ',', 'a', 'w', '-', 0, 127, 128, 255};
    private static final String COURT = "123456";
    private static final String GIFT = "112,91";

    public static void main(String[] args) {
        newObject();
        atFirst();
        signOfMoreThan80();
        signHighestByteFirst();
        endHasNotSoMany();
        endBelowZero();
        courtsOfAnEmptyText();
        courtsSignCantStand();
        courtsRankNotZero();
        courtsEndTooEarly();
        courtsNoRoom();
        courtsMoreThan41();
        courtsNothingComes();
        giftsOfAnEmptyText();
        giftsKind();
        giftsWorth();
        giftsSignCantStand();
        giftsCourtThatIsThere();
        giftsEndTooEarly();
        giftsNoRoom();
        giftsMoreThan55();
        giftsNothingComes();
        check.end();
    }

    /** Promise 1: "No courts, no GIFTS." */
    private static void newObject() {
        GiftsOfCourts x = new GiftsOfCourts();
        for (int what = 0; what <= 12; what++) {
            check.due("count(" + what + ") of a new object", x.count(what), 0);
        }
        check.noSuch("court(0, 0)", () -> x.court(0, 0));
        check.noSuch("gift(0, 0)", () -> x.gift(0, 0));
        check.noSuch("row(0)", () -> x.row(0));
    }

    /** Terms 1: "GRAIN .. (at first 50)", "ESTEEM .. (at first 10)", "DUE .. at first 0", "ALIVE", "at first none". */
    private static void atFirst() {
        GiftsOfCourts x = Check.alike(6, Check.lines("19,95", 8));
        for (int one = 0; one < 6; one++) {
            check.due("grain at first", x.court(one, 1), 50);
            for (int other = 0; other < 6; other++) {
                if (one != other) {
                    check.due("esteem at first", x.between(one, other, 0), 10);
                    check.due("due at first", x.between(one, other, 1), 0);
                    check.due("road at first", x.between(one, other, 2), -1);
                }
            }
        }
        for (int g = 0; g < 8; g++) {
            check.due("alive at first", x.gift(g, 5), 0);
            check.due("had at first by the one that has it", x.gift(g, 4), 1 << 5);
        }
        check.due("month at first", x.count(2), 0);
        check.due("the rule at first: w*k/5", x.value(0, 0), 9);
    }

    /** Promise 2: "Refused: there would be more than 80." */
    private static void signOfMoreThan80() {
        for (int length = 0; length <= 80; length++) {
            GiftsOfCourts x = Check.tell(new GiftsOfCourts(), "7".repeat(length));
            check.due("so many signs", x.count(12), length);
            check.due("sign behind " + length, x.sign(0x39393939), length <= 76 ? length + 4 : -1);
            check.due("signs behind " + length, x.count(12), length <= 76 ? length + 4 : length);
        }
        check.refused("sign behind 77", () -> told("7".repeat(77)), x -> x.sign(0), -1);
        check.refused("sign behind 80", () -> told("7".repeat(80)), x -> x.sign(-1), -1);
    }

    private static GiftsOfCourts told(String text) {
        return Check.tell(Check.busy(), text);
    }

    /** Promise 2: "of v the highest byte first", whatever sign each byte is. */
    private static void signHighestByteFirst() {
        GiftsOfCourts x = new GiftsOfCourts();
        x.sign('9' << 24 | '1' << 16 | '2' << 8 | '3');
        x.sign('4' << 24 | '5' << 16 | 255 << 8 | 255);
        x.end(6);
        check.due("a court", x.courts(), 1);
        int[] due = {9, 1, 2, 3, 4, 5};
        check.due("rank", x.court(0, 0), due[0]);
        for (int kind = 0; kind < 5; kind++) {
            check.due("taste " + kind, x.court(0, 10 + kind), due[1 + kind]);
        }
        // The highest bit of v is its first sign's alone, and stays a part of no other one.
        check.due("signs 255", new GiftsOfCourts().sign(-1), 4);
        GiftsOfCourts high = new GiftsOfCourts();
        high.sign('1' << 24 | '2' << 16 | '3' << 8 | '4' | 0x80000000);
        check.due("a first sign of 177", high.courts(), -1);
        GiftsOfCourts low = new GiftsOfCourts();
        low.sign('1' << 24 | '2' << 16 | '3' << 8 | '4' | 0x80);
        check.due("a fourth sign of 180", low.courts(), -4);
    }

    /** Promise 3: "false if it has not so many". */
    private static void endHasNotSoMany() {
        for (int length = 0; length <= 80; length += 16) {
            int has = length;
            check.due("end(" + has + ")", Check.tell(new GiftsOfCourts(), "7".repeat(has)).end(has), true);
            check.refused("end of more", () -> told("7".repeat(has)), x -> x.end(has + 1) ? 1 : 0, 0);
            check.refused("end of the most", () -> told("7".repeat(has)), x -> x.end(Integer.MAX_VALUE) ? 1 : 0, 0);
        }
        GiftsOfCourts x = Check.tell(new GiftsOfCourts(), COURT + ";x");
        check.due("end(6)", x.end(6), true);
        check.due("it has six", x.count(12), 6);
        check.due("the first ones alone", x.courts(), 1);
        GiftsOfCourts none = Check.tell(new GiftsOfCourts(), COURT);
        check.due("end(0)", none.end(0), true);
        check.due("it has none", none.count(12), 0);
        check.due("end(0) of none", none.end(0), true);
        check.due("end(1) of none", none.end(1), false);
    }

    /** Promise 3: "or n is below 0". */
    private static void endBelowZero() {
        check.refused("end(-1)", Check::busy, x -> x.end(-1) ? 1 : 0, 0);
        check.refused("end(min)", Check::busy, x -> x.end(Integer.MIN_VALUE) ? 1 : 0, 0);
        check.refused("end(-1) of none", () -> told(""), x -> x.end(-1) ? 1 : 0, 0);
    }

    /** Promise 4: "an empty one: nothing". */
    private static void courtsOfAnEmptyText() {
        check.refusedText("courts of", Check::busy, "", GiftsOfCourts::courts, 0);
        check.refusedText("courts of", () -> Check.alike(6, ""), "", GiftsOfCourts::courts, 0);
        check.due("of a new object", new GiftsOfCourts().courts(), 0);
    }

    /** Promise 4: "-1 - p: the sign at p can't stand there": six digits a LINE, ; between. */
    private static void courtsSignCantStand() {
        for (int line = 0; line < 3; line++) {
            String ahead = Check.lines(COURT, line) + (line == 0 ? "" : ";");
            for (int p = 0; p < 6; p++) {
                for (char sign : NO_DIGITS) {
                    courtsFault(ahead + COURT.substring(0, p) + sign + COURT.substring(p + 1), ahead.length() + p);
                }
            }
            for (char sign : NO_DIGITS) {
                if (sign != ';') {
                    courtsFault(ahead + COURT + sign + COURT, ahead.length() + 6);
                }
            }
            courtsFault(ahead + COURT + "7", ahead.length() + 6);
        }
    }

    /** Terms 1: "six digits (RANK, not 0; TASTE for KIND 0, 1, 2, 3, 4)": 1 .. 9 and 0 .. 9. */
    private static void courtsRankNotZero() {
        for (int digit = 0; digit <= 9; digit++) {
            GiftsOfCourts x = new GiftsOfCourts();
            check.due("rank " + digit, Check.courts(x, digit + "00000"), digit == 0 ? -1 : 1);
            check.due("courts then", x.count(0), digit == 0 ? 0 : 1);
            if (digit > 0) {
                check.due("its rank", x.court(0, 0), digit);
            }
            for (int kind = 0; kind < 5; kind++) {
                GiftsOfCourts y = new GiftsOfCourts();
                check.due("taste " + digit, Check.courts(y, "5" + "5".repeat(kind) + digit + "5".repeat(4 - kind)), 1);
                check.due("its taste", y.court(0, 10 + kind), digit);
            }
        }
        courtsFault("012345", 0);
        courtsFault("999999;012345", 7);
    }

    /** Promise 4: "its end, if it ends too early". */
    private static void courtsEndTooEarly() {
        String three = Check.lines(COURT, 3);
        for (int length = 1; length <= three.length(); length++) {
            if (length % 7 == 6) {
                check.due("whole lines", Check.courts(new GiftsOfCourts(), three.substring(0, length)), (length + 1) / 7);
            } else {
                courtsFault(three.substring(0, length), length);
            }
        }
    }

    /** Terms 1: "COURTS 0 .. (at most 6)"; promise 4: "the first sign of a LINE for which there is no room". */
    private static void courtsNoRoom() {
        for (int there = 0; there <= 6; there++) {
            for (int more = 1; more <= 6; more++) {
                GiftsOfCourts x = Check.alike(there, "");
                boolean room = there + more <= 6;
                String name = more + " courts more than " + there;
                check.due(name, Check.courts(x, Check.lines(COURT, more)), room ? more : -1 - 7 * (6 - there));
                check.due(name + ", then", x.count(0), room ? there + more : there);
            }
        }
        // It is the line's first sign, whatever that is, and whatever stands behind it.
        for (String last : new String[] {"", "x", "0", ";", "12345", "1x"}) {
            check.refusedText("no room", () -> Check.alike(5, "15,90"), COURT + ";" + last, GiftsOfCourts::courts, -1 - 7);
        }
        check.refusedText("no room at all", () -> Check.alike(6, "15,90"), "x", GiftsOfCourts::courts, -1);
        check.refusedText("wrong ahead of it", () -> Check.alike(5, "15,90"), "12345x;1", GiftsOfCourts::courts, -1 - 5);
        check.refusedText("not parted from it", () -> Check.alike(5, "15,90"), COURT + "1", GiftsOfCourts::courts, -1 - 6);
    }

    /** Promise 4: "41, if it has more and the first 41 could go on or end". */
    private static void courtsMoreThan41() {
        String six = Check.lines(COURT, 6);
        check.due("41 signs", six.length(), 41);
        check.due("six courts", Check.courts(new GiftsOfCourts(), six), 6);
        for (char sign : new char[] {';', '1', '0', 'x', 0, 255}) {
            courtsFault(six + sign, 41);
        }
        courtsFault(six + ";" + COURT, 41);
        courtsFault(six + ";".repeat(39), 41);
        // If the first 41 can't, the sign by which they can't is told.
        courtsFault(six.substring(0, 40) + "x;" + COURT, 40);
        courtsFault(six.substring(0, 35) + "0" + six.substring(36) + ";", 35);
        courtsFault("0" + six, 0);
        courtsFault(six.substring(0, 40), 40);
    }

    /** Promise 4: "Nothing of it comes, if a LINE can't." */
    private static void courtsNothingComes() {
        check.refusedText("the second can't", Check::busy, COURT + ";023456", GiftsOfCourts::courts, -1 - 7);
        check.refusedText("the last ends too early", Check::busy, COURT + ";" + COURT + ";1", GiftsOfCourts::courts, -1 - 15);
        check.refusedText("no room for the last", Check::busy, Check.lines(COURT, 4), GiftsOfCourts::courts, -1 - 21);
        GiftsOfCourts x = Check.alike(1, "");
        Check.courts(x, "999999;899999;x");
        check.due("two others", Check.courts(x, "111111;211111"), 2);
        check.due("rank of the first", x.court(1, 0), 1);
        check.due("rank of the second", x.court(2, 0), 2);
        check.due("taste of the second", x.court(2, 14), 1);
    }

    private static void courtsFault(String text, int p) {
        GiftsOfCourts x = new GiftsOfCourts();
        check.due("courts of '" + text + "'", Check.courts(x, text), -1 - p);
        check.due("courts behind '" + text + "'", x.count(0), 0);
        check.due("THE TEXT behind '" + text + "'", x.count(12), 0);
    }

    /** Promise 5: "an empty one: nothing". */
    private static void giftsOfAnEmptyText() {
        check.refusedText("gifts of", Check::busy, "", GiftsOfCourts::gifts, 0);
        check.refusedText("gifts of", () -> Check.alike(2, Check.lines("15,90", 8)), "", GiftsOfCourts::gifts, 0);
        check.due("of a new object", new GiftsOfCourts().gifts(), 0);
    }

    /** Terms 1: "a digit 0 .. 4 (KIND)". */
    private static void giftsKind() {
        for (int kind = 0; kind <= 9; kind++) {
            GiftsOfCourts x = Check.alike(2, "");
            check.due("kind " + kind, Check.gifts(x, kind + "12,91"), kind <= 4 ? 1 : -1);
            if (kind <= 4) {
                check.due("its kind", x.gift(0, 0), kind);
            }
        }
        giftsFault(GIFT + ";512,91", 7);
        giftsFault(GIFT + ";/12,91", 7);
    }

    /** Terms 1: "WORTH (1 or 2 digits, not 0)"; promise 5: "WORTH 0: at its last digit". */
    private static void giftsWorth() {
        for (int worth = 1; worth <= 99; worth++) {
            GiftsOfCourts x = Check.alike(2, "");
            check.due("worth " + worth, Check.gifts(x, "1" + worth + ",91"), 1);
            check.due("its worth", x.gift(0, 1), worth);
        }
        for (int worth = 1; worth <= 9; worth++) {
            GiftsOfCourts x = Check.alike(2, "");
            check.due("worth 0" + worth, Check.gifts(x, "10" + worth + ",91"), 1);
            check.due("its worth", x.gift(0, 1), worth);
        }
        giftsFault("10,91", 1);
        giftsFault("100,91", 2);
        giftsFault("10", 1);
        giftsFault("100", 2);
        giftsFault("10x", 1);
        giftsFault("100x", 2);
        giftsFault("1000,91", 2);
        giftsFault("1100,91", 3);
        giftsFault("1011,91", 3);
        giftsFault("1999,91", 3);
        giftsFault(GIFT + ";10,91", 8);
        giftsFault(GIFT + ";100,91", 9);
    }

    /** Promise 5: "-1 - p: the sign at p can't stand there". */
    private static void giftsSignCantStand() {
        for (String line : new String[] {"112,91", "19,91"}) {
            int comma = line.indexOf(',');
            for (String ahead : new String[] {"", GIFT + ";", "15,00;" + GIFT + ";"}) {
                for (char sign : NO_DIGITS) {
                    for (int p = 0; p < line.length(); p++) {
                        boolean fits = sign == ',' && (p == comma || p == 2);
                        if (!fits) {
                            String text = ahead + line.substring(0, p) + sign + line.substring(p + 1);
                            giftsFault(text, ahead.length() + p);
                        }
                    }
                    if (sign != ';') {
                        giftsFault(ahead + line + sign, ahead.length() + line.length());
                    }
                }
                giftsFault(ahead + line + "1", ahead.length() + line.length());
            }
        }
        for (int eats = 0; eats <= 9; eats++) {
            GiftsOfCourts x = Check.alike(2, "112," + eats + "1");
            check.due("eats", x.gift(0, 2), eats);
        }
        giftsFault("1,91", 1);
        giftsFault("112,,1", 4);
        // A comma in the place of the second digit makes a worth of one digit, and a comma more.
        giftsFault("11,,91", 3);
    }

    /** Terms 1: "a digit (a court that is there)". */
    private static void giftsCourtThatIsThere() {
        for (int courts = 0; courts <= 6; courts++) {
            for (int court = 0; court <= 9; court++) {
                GiftsOfCourts x = Check.alike(courts, "");
                boolean there = court < courts;
                check.due("court " + court + " of " + courts, Check.gifts(x, "112,9" + court), there ? 1 : -1 - 5);
                check.due("gifts then", x.count(1), there ? 1 : 0);
                if (there) {
                    check.due("it has it", x.gift(0, 3), court);
                    check.due("it had it", x.gift(0, 4), 1 << court);
                }
            }
        }
    }

    /** Promise 5: "its end, if it ends too early". */
    private static void giftsEndTooEarly() {
        String three = "112,91;15,00;399,01";
        int[] whole = {6, 12, 19};
        for (int length = 1; length <= three.length(); length++) {
            int lines = length == whole[0] ? 1 : length == whole[1] ? 2 : length == whole[2] ? 3 : 0;
            if (lines > 0) {
                check.due("whole lines", Check.gifts(Check.alike(2, ""), three.substring(0, length)), lines);
            } else {
                giftsFault(three.substring(0, length), length);
            }
        }
    }

    /** Terms 1: "GIFTS 0 .. (at most 8)"; promise 5: "the first sign of a LINE for which there is no room". */
    private static void giftsNoRoom() {
        for (int there = 0; there <= 8; there++) {
            for (int more = 1; more <= 9; more++) {
                GiftsOfCourts x = Check.alike(2, Check.lines("17,01", there));
                boolean room = there + more <= 8;
                String name = more + " gifts more than " + there;
                check.due(name, Check.gifts(x, Check.lines("15,00", more)), room ? more : -1 - 6 * (8 - there));
                check.due(name + ", then", x.count(1), room ? there + more : there);
            }
        }
        for (String last : new String[] {"", "x", "5", ";", "10", "112,9"}) {
            check.refusedText("no room", () -> Check.alike(2, Check.lines("15,90", 7)), GIFT + ";" + last,
                    GiftsOfCourts::gifts, -1 - 7);
        }
        check.refusedText("no room at all", () -> Check.alike(2, Check.lines("15,90", 8)), "x", GiftsOfCourts::gifts, -1);
        check.refusedText("wrong ahead of it", () -> Check.alike(2, Check.lines("15,90", 7)), "10,91;1",
                GiftsOfCourts::gifts, -1 - 1);
    }

    /** Promise 5: "55, if it has more and the first 55 could go on or end". */
    private static void giftsMoreThan55() {
        String eight = Check.lines(GIFT, 8);
        check.due("55 signs", eight.length(), 55);
        check.due("eight gifts", Check.gifts(Check.alike(2, ""), eight), 8);
        for (char sign : new char[] {';', '1', '0', ',', 'x', 0, 255}) {
            giftsFault(eight + sign, 55);
        }
        giftsFault(eight + ";" + GIFT, 55);
        giftsFault(eight + ";".repeat(25), 55);
        giftsFault(eight.substring(0, 54) + "2", 54);
        giftsFault(eight.substring(0, 54) + "x;" + GIFT, 54);
        giftsFault("5" + eight, 0);
        giftsFault(eight.substring(0, 54), 54);
        // A shorter line among them: the ninth line begins at 55, or ahead of it.
        String shorter = Check.lines(GIFT, 7) + ";15,00";
        check.due("54 signs", Check.gifts(Check.alike(2, ""), shorter), 8);
        giftsFault(shorter + ";" + GIFT, 55);
        giftsFault(shorter + "1", 54);
        giftsFault(Check.lines(GIFT, 6) + ";15,00;15,00;" + GIFT, 54);
        giftsFault(Check.lines("15,00", 9), 48);
        giftsFault(Check.lines("15,00", 13), 48);
    }

    /** Promise 5: "Nothing of it comes, if a LINE can't." */
    private static void giftsNothingComes() {
        check.refusedText("the second can't", Check::busy, GIFT + ";512,91", GiftsOfCourts::gifts, -1 - 7);
        check.refusedText("the last ends too early", Check::busy, GIFT + ";" + GIFT + ";1", GiftsOfCourts::gifts, -1 - 15);
        check.refusedText("no room for the last", Check::busy, Check.lines(GIFT, 6), GiftsOfCourts::gifts, -1 - 35);
        check.refusedText("no such court", Check::busy, GIFT + ";112,93", GiftsOfCourts::gifts, -1 - 12);
        GiftsOfCourts x = Check.alike(2, "");
        Check.gifts(x, "499,91;399,91;x");
        check.due("two others", Check.gifts(x, "11,10;22,20"), 2);
        int[] due = {2, 2, 2, 0, 1, 0};
        for (int what = 0; what < 6; what++) {
            check.due("the second, " + what, x.gift(1, what), due[what]);
        }
    }

    private static void giftsFault(String text, int p) {
        GiftsOfCourts x = Check.alike(2, "");
        check.due("gifts of '" + text + "'", Check.gifts(x, text), -1 - p);
        check.due("gifts behind '" + text + "'", x.count(1), 0);
        check.due("THE TEXT behind '" + text + "'", x.count(12), 0);
    }
}
