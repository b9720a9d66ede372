import java.util.Arrays;
import java.util.Collections;
import java.util.NoSuchElementException;
import java.util.function.LongSupplier;
import java.util.function.Supplier;
import java.util.function.ToLongFunction;

/** What the tests share: counting wrong answers, telling texts, reading the ROW. */
final class Check {
    private int wrong;
    private int asked;

    void due(String what, long got, long want) {
        asked++;
        if (got != want) {
            wrong++;
            System.out.println(what + " answered " + got + ", due is " + want);
        }
    }

    void due(String what, boolean got, boolean want) {
        due(what, got ? 1 : 0, want ? 1 : 0);
    }

    /** An answer and the whole ROW behind it. */
    void due(String what, GiftsOfCourts x, long got, long want, long... row) {
        due(what, got, want);
        row(what, x, row);
    }

    void row(String what, GiftsOfCourts x, long... want) {
        asked++;
        long[] got = rowOf(x);
        if (!Arrays.equals(got, want)) {
            wrong++;
            System.out.println(what + " told " + Arrays.toString(got) + ", due is " + Arrays.toString(want));
        }
        noSuch(what + " row(-1)", () -> x.row(-1));
        noSuch(what + " row behind its end", () -> x.row(want.length));
    }

    void noSuch(String what, LongSupplier call) {
        asked++;
        long got;
        try {
            got = call.getAsLong();
        } catch (NoSuchElementException e) {
            return;
        }
        wrong++;
        System.out.println(what + " answered " + got + ", due is NoSuchElementException");
    }

    /** A refused call: its answer, and that all is as on an object that was made likewise without it. */
    void refused(String what, Supplier<GiftsOfCourts> made, ToLongFunction<GiftsOfCourts> call, long want) {
        GiftsOfCourts x = made.get();
        due(what, call.applyAsLong(x), want);
        same(what + " changed something", wholeOf(x), wholeOf(made.get()));
    }

    /** Likewise of a call that reads THE TEXT: nothing but that is changed, and it is empty then. */
    void refusedText(String what, Supplier<GiftsOfCourts> made, String text, ToLongFunction<GiftsOfCourts> call, long want) {
        GiftsOfCourts x = tell(made.get(), text);
        due(what + " '" + text + "'", call.applyAsLong(x), want);
        GiftsOfCourts other = made.get();
        other.end(0);
        same(what + " '" + text + "' changed something", wholeOf(x), wholeOf(other));
    }

    /** Likewise of a call that throws. */
    void refusedThrowing(String what, Supplier<GiftsOfCourts> made, ToLongFunction<GiftsOfCourts> call) {
        GiftsOfCourts x = made.get();
        noSuch(what, () -> call.applyAsLong(x));
        same(what + " changed something", wholeOf(x), wholeOf(made.get()));
    }

    /** A question: nothing but the ROW may be changed by it. */
    void question(String what, Supplier<GiftsOfCourts> made, ToLongFunction<GiftsOfCourts> call) {
        GiftsOfCourts x = made.get();
        call.applyAsLong(x);
        same(what + " changed something", wholeButRow(x), wholeButRow(made.get()));
    }

    private void same(String what, String got, String want) {
        asked++;
        if (!got.equals(want)) {
            wrong++;
            System.out.println(what + ":\n  " + got + "\n  " + want);
        }
    }

    void end() {
        System.out.println(asked + " answers, " + wrong + " wrong");
        if (wrong != 0) {
            System.exit(1);
        }
    }

    static long[] rowOf(GiftsOfCourts x) {
        long[] row = new long[x.count(11)];
        for (int i = 0; i < row.length; i++) {
            row[i] = x.row(i);
        }
        return row;
    }

    /** All that an object answers, of what undo() and again() bring back, too; the object is used up by it. */
    static String wholeOf(GiftsOfCourts x) {
        return Arrays.toString(rowOf(x)) + wholeButRow(x);
    }

    private static String wholeButRow(GiftsOfCourts x) {
        StringBuilder whole = new StringBuilder(stateOf(x));
        whole.append(" roads ").append(x.count(8)).append(" heard ").append(x.count(9)).append(" fit ").append(x.fits());
        whole.append(" text ").append(x.count(12)).append(" as a law ").append(x.law());
        for (int left = x.undo(); left >= 0; left = x.undo()) {
            whole.append("\n  undone, left ").append(left).append(stateOf(x));
        }
        for (int i = 0; i < 3; i++) {
            if (x.again(i)) {
                whole.append("\n  again ").append(i).append(stateOf(x));
            }
        }
        return whole.toString();
    }

    private static String stateOf(GiftsOfCourts x) {
        StringBuilder state = new StringBuilder(" month ").append(x.count(2)).append(" undo ").append(x.count(10));
        for (int one = 0; one < x.count(0); one++) {
            state.append(" court ").append(x.court(one, 0)).append(' ').append(x.court(one, 1));
            for (int kind = 0; kind < 5; kind++) {
                state.append(' ').append(x.court(one, 10 + kind));
            }
            for (int other = 0; other < x.count(0); other++) {
                for (int what = 0; what < 3 && one != other; what++) {
                    state.append(' ').append(x.between(one, other, what));
                }
            }
        }
        for (int g = 0; g < x.count(1); g++) {
            state.append(" gift");
            for (int what = 0; what < 6; what++) {
                state.append(' ').append(x.gift(g, what));
            }
            state.append(" value ").append(x.value(g, 0));
        }
        return state.toString();
    }

    /** Something of everything: a rule, a road, a due, a dead gift, acts to undo, a kept state, a ROW, THE TEXT. */
    static GiftsOfCourts busy() {
        GiftsOfCourts x = realm("312345;255555;967890", "120,90;030,01;410,52");
        rule(x, "w+k-d");
        x.road(0, 1, 4);
        x.heard(1, 15);
        x.keep(1);
        x.sheet(2, 3, 2, 20);
        x.send(1, 0);
        x.months(1);
        x.net(0);
        tell(x, "7+w");
        return x;
    }

    /** So many courts of rank and taste 5, for which a gift has its worth as value. */
    static GiftsOfCourts alike(int courts, String gifts) {
        return realm(lines("555555", courts), gifts);
    }

    static String lines(String line, int n) {
        return String.join(";", Collections.nCopies(n, line));
    }

    /** THE TEXT is this text alone then. */
    static GiftsOfCourts tell(GiftsOfCourts x, String text) {
        x.end(0);
        for (int p = 0; p < text.length(); p += 4) {
            int v = 0;
            for (int i = p; i < p + 4; i++) {
                v = v << 8 | (i < text.length() ? text.charAt(i) : 0);
            }
            x.sign(v);
        }
        x.end(text.length());
        return x;
    }

    static int courts(GiftsOfCourts x, String text) {
        return tell(x, text).courts();
    }

    static int gifts(GiftsOfCourts x, String text) {
        return tell(x, text).gifts();
    }

    static int rule(GiftsOfCourts x, String text) {
        return tell(x, text).rule();
    }

    static int law(GiftsOfCourts x, String text) {
        return tell(x, text).law();
    }

    static int year(GiftsOfCourts x, String text) {
        return tell(x, text).year();
    }

    static GiftsOfCourts realm(String courts, String gifts) {
        GiftsOfCourts x = new GiftsOfCourts();
        courts(x, courts);
        gifts(x, gifts);
        return x;
    }
}
