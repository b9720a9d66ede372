import java.util.Arrays;
import java.util.NoSuchElementException;
import java.util.function.LongSupplier;

/** What the tests share: counting wrong answers, telling texts, reading the ROW. */
final class Check {
    private int wrong;
    private int asked;

    void due(String what, long got, long want) {
        asked++;
        if (got != want) {
            wrong++;
            System.out.println(what + " answered " + got + ", due is " + want);
        }
    }

    void due(String what, boolean got, boolean want) {
        due(what, got ? 1 : 0, want ? 1 : 0);
    }

    /** An answer and the whole ROW behind it. */
    void due(String what, GiftsOfCourts x, long got, long want, long... row) {
        due(what, got, want);
        row(what, x, row);
    }

    void row(String what, GiftsOfCourts x, long... want) {
        asked++;
        long[] got = rowOf(x);
        if (!Arrays.equals(got, want)) {
            wrong++;
            System.out.println(what + " told " + Arrays.toString(got) + ", due is " + Arrays.toString(want));
        }
        noSuch(what + " row(-1)", () -> x.row(-1));
        noSuch(what + " row behind its end", () -> x.row(want.length));
    }

    void noSuch(String what, LongSupplier call) {
        asked++;
        long got;
        try {
            got = call.getAsLong();
        } catch (NoSuchElementException e) {
            return;
        }
        wrong++;
        System.out.println(what + " answered " + got + ", due is NoSuchElementException");
    }

    void end() {
        System.out.println(asked + " answers, " + wrong + " wrong");
        if (wrong != 0) {
            System.exit(1);
        }
    }

    static long[] rowOf(GiftsOfCourts x) {
        long[] row = new long[x.count(11)];
        for (int i = 0; i < row.length; i++) {
            row[i] = x.row(i);
        }
        return row;
    }

    /** THE TEXT is this text alone then. */
    static GiftsOfCourts tell(GiftsOfCourts x, String text) {
        x.end(0);
        for (int p = 0; p < text.length(); p += 4) {
            int v = 0;
            for (int i = p; i < p + 4; i++) {
                v = v << 8 | (i < text.length() ? text.charAt(i) : 0);
            }
            x.sign(v);
        }
        x.end(text.length());
        return x;
    }

    static int courts(GiftsOfCourts x, String text) {
        return tell(x, text).courts();
    }

    static int gifts(GiftsOfCourts x, String text) {
        return tell(x, text).gifts();
    }

    static int rule(GiftsOfCourts x, String text) {
        return tell(x, text).rule();
    }

    static int law(GiftsOfCourts x, String text) {
        return tell(x, text).law();
    }

    static int year(GiftsOfCourts x, String text) {
        return tell(x, text).year();
    }

    static GiftsOfCourts realm(String courts, String gifts) {
        GiftsOfCourts x = new GiftsOfCourts();
        courts(x, courts);
        gifts(x, gifts);
        return x;
    }
}
