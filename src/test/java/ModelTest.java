import java.util.NoSuchElementException;
import java.util.Random;
import java.util.function.LongSupplier;

/** Runs of at most 512 calls drawn by a seed, on the program and on the plain model: each answer and each ROW. */
final class ModelTest {
    private static final Check check = new Check();
    private static final int RUNS = 1500;
    private static final long THROWN = Long.MIN_VALUE;

    private final Random random;
    private final String run;
    private final GiftsOfCourts x = new GiftsOfCourts();
    private final Model y = new Model();
    private int calls;

    private ModelTest(int seed) {
        random = new Random(seed);
        run = "run " + seed + ", call ";
    }

    public static void main(String[] args) {
        int runs = args.length > 0 ? Integer.parseInt(args[0]) : RUNS;
        for (int seed = 0; seed < runs; seed++) {
            new ModelTest(seed).go();
        }
        check.end();
    }

    private void go() {
        if (random.nextInt(10) > 0) {
            text(courtsLines(1 + random.nextInt(6)));
            same("courts()", x::courts, y::courts);
        }
        if (random.nextInt(10) > 0) {
            text(giftsLines(1 + random.nextInt(8)));
            same("gifts()", x::gifts, y::gifts);
        }
        begin();
        while (calls < 440) {
            switch (random.nextInt(10)) {
                case 0, 1, 2 -> act();
                case 3 -> read();
                case 4, 5, 6 -> ask();
                case 7 -> look();
                default -> keep();
            }
        }
    }

    /** Courts that owe, think of each other and have roads, so that there is something to ask for. */
    private void begin() {
        int courts = Math.max(1, y.count(0));
        for (int i = random.nextInt(40); i > 0; i--) {
            int one = random.nextInt(courts);
            int other = random.nextInt(courts);
            int n = 1 + random.nextInt(9);
            switch (random.nextInt(4)) {
                case 0 -> same("road(" + one + ", " + other + ", " + n + ")", () -> x.road(one, other, n), () -> y.road(one, other, n));
                case 1 -> same("envoy(" + one + ", " + other + ", " + n + ")", () -> x.envoy(one, other, n), () -> y.envoy(one, other, n));
                default -> {
                    int g = random.nextInt(Math.max(1, y.count(1)));
                    same("send(" + g + ", " + other + ")", () -> x.send(g, other), () -> y.send(g, other));
                }
            }
        }
        if (random.nextInt(3) == 0) {
            int f = random.nextInt(30);
            same("sheet(2, 6, " + f + ", 3)", () -> x.sheet(2, 6, f, 3), () -> y.sheet(2, 6, f, 3));
        }
    }

    /** One call on both: the answers, and what is told behind it. */
    private void same(String name, LongSupplier ofProgram, LongSupplier ofModel) {
        calls++;
        String call = run + calls + ": " + name;
        long got = answer(ofProgram);
        check.due(call, got, answer(ofModel));
        int numbers = x.count(11);
        check.due(call + ", numbers told", numbers, y.count(11));
        calls++;
        for (int i = 0; i < numbers && i < y.count(11); i++) {
            calls++;
            check.due(call + ", number " + i, x.row(i), y.row(i));
        }
    }

    private static long answer(LongSupplier call) {
        try {
            return call.getAsLong();
        } catch (NoSuchElementException e) {
            return THROWN;
        }
    }

    // ---- numbers near their bounds

    private int number(int least, int most) {
        switch (random.nextInt(60)) {
            case 0:
                return least - 1;
            case 1:
                return most + 1;
            case 2:
                return least;
            case 3:
                return most;
            case 4:
                return random.nextInt();
            default:
                return least + random.nextInt(most - least + 1);
        }
    }

    private int court() {
        return number(0, Math.max(0, y.count(0) - 1));
    }

    private int gift() {
        return number(0, Math.max(0, y.count(1) - 1));
    }

    // ---- texts

    private void text(String it) {
        same("end(0)", () -> x.end(0) ? 1 : 0, () -> y.end(0));
        for (int p = 0; p < it.length(); p += 4) {
            int v = 0;
            for (int i = p; i < p + 4; i++) {
                v = v << 8 | (i < it.length() ? it.charAt(i) : random.nextInt(256));
            }
            int signs = v;
            same("sign(" + signs + ")", () -> x.sign(signs), () -> y.sign(signs));
        }
        same("end(" + it.length() + ") of '" + it + "'", () -> x.end(it.length()) ? 1 : 0, () -> y.end(it.length()));
    }

    /** Now and then a sign is another one, is gone, or is one more. */
    private String hurt(String it) {
        StringBuilder hurt = new StringBuilder(it);
        if (random.nextInt(4) == 0 && hurt.length() > 0) {
            int p = random.nextInt(hurt.length());
            char sign = "0123456789;,wkrshed()<>=+-*/smfpq ?".charAt(random.nextInt(35));
            switch (random.nextInt(4)) {
                case 0 -> hurt.setCharAt(p, sign);
                case 1 -> hurt.deleteCharAt(p);
                case 2 -> hurt.insert(p, sign);
                default -> hurt.setLength(p);
            }
        }
        hurt.setLength(Math.min(80, hurt.length()));
        return hurt.toString();
    }

    private String courtsLines(int lines) {
        StringBuilder it = new StringBuilder();
        for (int i = 0; i < lines; i++) {
            it.append(i == 0 ? "" : ";").append(1 + random.nextInt(9));
            for (int kind = 0; kind < 5; kind++) {
                it.append(random.nextInt(10));
            }
        }
        return it.toString();
    }

    private String giftsLines(int lines) {
        StringBuilder it = new StringBuilder();
        for (int i = 0; i < lines; i++) {
            int worth = 1 + random.nextInt(random.nextBoolean() ? 9 : 99);
            it.append(i == 0 ? "" : ";").append(random.nextInt(5)).append(worth).append(',').append(random.nextInt(10))
                    .append(random.nextInt(Math.max(1, y.count(0))));
        }
        return it.toString();
    }

    private String ruleText() {
        return random.nextInt(8) == 0 ? "" : hurt(expression(3));
    }

    private String expression(int deep) {
        switch (deep == 0 ? random.nextInt(2) : random.nextInt(7)) {
            case 0:
                return "wkrshed".charAt(random.nextInt(7)) + "";
            case 1:
                return random.nextInt(random.nextBoolean() ? 10 : 1000) + "";
            case 2:
                return "-" + expression(deep - 1);
            case 3:
                return "(" + expression(deep - 1) + ")";
            default:
                return expression(deep - 1) + "<>=++--**//".charAt(random.nextInt(11)) + expression(deep - 1);
        }
    }

    private String yearText() {
        StringBuilder it = new StringBuilder();
        for (int acts = random.nextInt(random.nextInt(5) == 0 ? 26 : 6); acts > 0; acts--) {
            int one = random.nextInt(Math.max(1, Math.max(y.count(0), y.count(1))));
            int two = random.nextInt(Math.max(1, y.count(0)));
            switch (random.nextInt(5)) {
                case 0 -> it.append('m').append(random.nextInt(random.nextInt(3) == 0 ? 10 : 2));
                case 1 -> it.append('f').append(one).append(two);
                case 2 -> it.append('p').append(one).append(two).append(1 + random.nextInt(9));
                case 3 -> it.append('q').append(one).append(two).append(1 + random.nextInt(9));
                default -> it.append('s').append(one).append(two);
            }
        }
        return hurt(it.toString());
    }

    // ---- calls

    private void read() {
        switch (random.nextInt(10)) {
            case 0 -> {
                text(hurt(courtsLines(random.nextInt(3))));
                same("courts()", x::courts, y::courts);
            }
            case 1 -> {
                text(hurt(giftsLines(random.nextInt(4))));
                same("gifts()", x::gifts, y::gifts);
            }
            case 2, 3 -> {
                text(ruleText());
                same("rule()", x::rule, y::rule);
            }
            case 4, 5 -> {
                text(ruleText());
                same("law()", x::law, y::law);
            }
            case 6, 7 -> {
                text(yearText());
                same("year()", x::year, y::year);
            }
            default -> {
                int n = number(0, y.count(12));
                same("end(" + n + ")", () -> x.end(n) ? 1 : 0, () -> y.end(n));
            }
        }
    }

    private void act() {
        int one = court();
        int other = court();
        int g = gift();
        int n = number(-9, 9);
        switch (random.nextInt(8)) {
            case 0, 1, 2 -> same("send(" + g + ", " + other + ")", () -> x.send(g, other), () -> y.send(g, other));
            case 3 -> {
                int months = random.nextInt(4) == 0 ? number(0, 60) : random.nextInt(3);
                same("months(" + months + ")", () -> x.months(months), () -> y.months(months));
            }
            case 4, 5 -> same("envoy(" + one + ", " + other + ", " + n + ")", () -> x.envoy(one, other, n), () -> y.envoy(one, other, n));
            case 6 -> same("forgive(" + one + ", " + other + ")", () -> x.forgive(one, other), () -> y.forgive(one, other));
            default -> same("undo()", x::undo, y::undo);
        }
    }

    private void ask() {
        int one = court();
        int other = court();
        int g = gift();
        switch (random.nextInt(17)) {
            case 0 -> same("value(" + g + ", " + one + ")", () -> x.value(g, one), () -> y.value(g, one));
            case 1 -> same("where(" + g + ")", () -> x.where(g), () -> y.where(g));
            case 2 -> same("answer(" + one + ", " + other + ")", () -> x.answer(one, other), () -> y.answer(one, other));
            case 3 -> same("wins(" + one + ", " + other + ")", () -> x.wins(one, other), () -> y.wins(one, other));
            case 4 -> same("unseen(" + g + ")", () -> x.unseen(g), () -> y.unseen(g));
            case 5 -> same("swaps()", x::swaps, y::swaps);
            case 6 -> same("way(" + one + ", " + other + ")", () -> x.way(one, other), () -> y.way(one, other));
            case 7 -> walks(one, other);
            case 8 -> {
                int p = number(0, 10);
                same("alive(" + one + ", " + other + ", " + p + ")", () -> x.alive(one, other, p), () -> y.alive(one, other, p));
            }
            case 9 -> same("feeds(" + one + ")", () -> x.feeds(one), () -> y.feeds(one));
            case 10 -> same("starves(" + one + ", " + other + ")", () -> x.starves(one, other), () -> y.starves(one, other));
            case 11 -> same("net(" + one + ")", () -> x.net(one), () -> y.net(one));
            case 12 -> same("settle()", x::settle, y::settle);
            case 13 -> same("ring()", x::ring, y::ring);
            case 14 -> same("ranks()", x::ranks, y::ranks);
            case 15 -> same("league()", x::league, y::league);
            default -> {
                int n = number(1, 60);
                int seed = random.nextInt();
                same("years(" + seed + ", " + n + ")", () -> x.years(seed, n), () -> y.years(seed, n));
            }
        }
    }

    private void walks(int one, int other) {
        int e = number(0, 9);
        int g = random.nextInt(3) == 0 ? number(0, 99) : e + random.nextInt(12);
        same("walks(" + one + ", " + other + ", " + e + ", " + g + ")", () -> x.walks(one, other, e, g), () -> y.walks(one, other, e, g));
    }

    private void look() {
        int one = court();
        int other = court();
        int g = gift();
        int what = number(0, 5);
        switch (random.nextInt(6)) {
            case 0, 1 -> {
                int asked = random.nextBoolean() ? what : number(10, 14);
                same("court(" + one + ", " + asked + ")", () -> x.court(one, asked), () -> y.court(one, asked));
            }
            case 2 -> {
                int asked = number(0, 2);
                same("between(" + one + ", " + other + ", " + asked + ")", () -> x.between(one, other, asked), () -> y.between(one, other, asked));
            }
            case 3 -> same("gift(" + g + ", " + what + ")", () -> x.gift(g, what), () -> y.gift(g, what));
            case 4 -> {
                int asked = number(0, 12);
                same("count(" + asked + ")", () -> x.count(asked), () -> y.count(asked));
            }
            default -> {
                int i = number(0, Math.max(0, y.count(11) - 1));
                same("row(" + i + ")", () -> x.row(i), () -> y.row(i));
            }
        }
    }

    private void keep() {
        int i = number(0, 2);
        switch (random.nextInt(10)) {
            case 0 -> same("keep(" + i + ")", () -> x.keep(i) ? 1 : 0, () -> y.keep(i));
            case 1 -> same("again(" + i + ")", () -> x.again(i) ? 1 : 0, () -> y.again(i));
            case 2, 3, 4 -> {
                int one = court();
                int other = court();
                int n = number(0, 9);
                same("road(" + one + ", " + other + ", " + n + ")", () -> x.road(one, other, n), () -> y.road(one, other, n));
            }
            case 5 -> {
                int kind = number(0, 3);
                int n = number(0, 6);
                int f = random.nextBoolean() ? random.nextInt(60) : random.nextInt();
                int step = random.nextBoolean() ? random.nextInt(20) - 5 : random.nextInt();
                same("sheet(" + kind + ", " + n + ", " + f + ", " + step + ")", () -> x.sheet(kind, n, f, step), () -> y.sheet(kind, n, f, step));
            }
            case 6 -> {
                int what = number(0, 3);
                int v = number(what == 1 ? 1 : 0, new int[] {4, 40, 5, 1}[Math.floorMod(what, 4)]);
                same("heard(" + what + ", " + v + ")", () -> x.heard(what, v), () -> y.heard(what, v));
            }
            case 7 -> same("fits()", x::fits, y::fits);
            case 8 -> {
                same("ask()", x::ask, y::ask);
                if (random.nextInt(3) == 0) {
                    same("forget()", x::forget, y::forget);
                }
            }
            default -> {
                int v = number(0, 20);
                same("rests(" + v + ")", () -> x.rests(v), () -> y.rests(v));
            }
        }
    }
}
