import java.util.Arrays;
import java.util.BitSet;
import java.util.NoSuchElementException;
import java.util.Random;

/** Runs drawn by a seed: questions against the acts that they foretell, and calls with any arguments at all. */
final class RandomRunsTest {
    private static final Check check = new Check();
    private static final String[] RULES = {
        "", "w", "w*k/5+r-s", "(r>s)*w+h*9", "999", "0", "w*(k>4)-e+d*50", "w/(k-3)+(h=2)*30", "-w*-k/4", "w-k*r/s"};

    public static void main(String[] args) {
        for (int seed = 0; seed < 400; seed++) {
            Random random = new Random(seed);
            GiftsOfCourts x = drawn(random);
            ask(x, random, "seed " + seed);
        }
        for (int seed = 0; seed < 400; seed++) {
            wild(new Random(seed));
        }
        check.end();
    }

    private static GiftsOfCourts drawn(Random random) {
        StringBuilder courts = new StringBuilder();
        int courtCount = 2 + random.nextInt(5);
        for (int c = 0; c < courtCount; c++) {
            courts.append(c == 0 ? "" : ";").append(1 + random.nextInt(9));
            for (int kind = 0; kind < 5; kind++) {
                courts.append(random.nextInt(10));
            }
        }
        StringBuilder gifts = new StringBuilder();
        int giftCount = random.nextInt(9);
        for (int g = 0; g < giftCount; g++) {
            gifts.append(g == 0 ? "" : ";").append(random.nextInt(5)).append(1 + random.nextInt(40)).append(',')
                    .append(random.nextInt(10)).append(random.nextInt(courtCount));
        }
        GiftsOfCourts x = Check.realm(courts.toString(), gifts.toString());
        check.due("courts", x.count(0), courtCount);
        check.due("gifts", x.count(1), giftCount);
        Check.rule(x, RULES[random.nextInt(RULES.length)]);
        for (int i = 0; i < 8; i++) {
            x.road(random.nextInt(courtCount), random.nextInt(courtCount), random.nextInt(10));
        }
        if (random.nextBoolean()) {
            x.sheet(2, courtCount, random.nextInt(40), random.nextInt(10));
        }
        for (int i = 0; i < 30; i++) {
            int one = random.nextInt(courtCount);
            int other = random.nextInt(courtCount);
            switch (random.nextInt(6)) {
                case 0 -> x.months(random.nextInt(3));
                case 1, 2 -> x.envoy(one, other, random.nextInt(19) - 9);
                case 3 -> x.send(random.nextInt(8), other);
                case 4 -> x.send(random.nextInt(8), one);
                default -> x.forgive(one, random.nextInt(courtCount * 3));
            }
        }
        return x;
    }

    private static void ask(GiftsOfCourts x, Random random, String run) {
        x.keep(0);
        int courts = x.count(0);
        for (int one = 0; one < courts; one++) {
            int other = random.nextInt(courts);
            feeds(x, one, run);
            ways(x, one, other, run);
            if (one != other) {
                answer(x, one, other, run);
                wins(x, one, other, run);
                starves(x, one, other, run);
            }
        }
        for (int g = 0; g < x.count(1); g++) {
            where(x, g, run);
        }
        ring(x, run);
        league(x, run);
        settle(x, run);
        law(x, RULES[random.nextInt(RULES.length)], run);
        check.due(run + ": what was kept is as it is", x.again(0), true);
    }

    private static void feeds(GiftsOfCourts x, int court, String run) {
        int answer = x.feeds(court);
        long[] told = Check.rowOf(x);
        int month = firstDeath(x, court);
        check.due(run + ": feeds", answer, month > 99 ? -2 : month);
        if (answer > 0) {
            int died = x.count(4) & x.court(court, 2);
            x.again(0);
            died &= ~x.count(4);
            check.due(run + ": feeds, which", told[0], Integer.numberOfTrailingZeros(died));
        }
        x.again(0);
    }

    /** Months go by, one at a time, till a gift of a court dies. */
    private static int firstDeath(GiftsOfCourts x, int court) {
        int before = x.count(4) & x.court(court, 2);
        for (int month = 1; month <= 99; month++) {
            x.months(1);
            if ((x.count(4) & x.court(court, 2)) != before) {
                return month;
            }
        }
        return 100;
    }

    private static void starves(GiftsOfCourts x, int court, int other, String run) {
        int answer = x.starves(court, other);
        long[] told = Check.rowOf(x);
        int best = -2;
        int soonest = 100;
        for (int g = 0; g < x.count(1); g++) {
            boolean eater = x.gift(g, 0) == 1 || x.gift(g, 0) == 4;
            if (x.gift(g, 3) == court && eater && x.gift(g, 5) == 0) {
                x.send(g, other);
                int month = firstDeath(x, other);
                if (month < soonest) {
                    soonest = month;
                    best = g;
                }
                x.again(0);
            }
        }
        check.due(run + ": starves", answer, best);
        if (best >= 0) {
            check.due(run + ": starves, when", told[0], soonest);
        }
    }

    private static void answer(GiftsOfCourts x, int court, int other, String run) {
        int answer = x.answer(court, other);
        long[] told = Check.rowOf(x);
        int best = -2;
        int most = -1;
        for (int g = 0; g < x.count(1); g++) {
            if (x.gift(g, 3) == court) {
                int esteem = x.send(g, other);
                if (esteem > most || esteem == most && x.gift(g, 1) < x.gift(best, 1)) {
                    most = esteem;
                    best = g;
                }
                x.again(0);
            }
        }
        check.due(run + ": answer", answer, best);
        if (best >= 0) {
            check.due(run + ": answer, esteem", told[0], most);
            check.due(run + ": answer, value", told[1], x.value(best, other));
        }
    }

    /** All rows of up to four gifts, each sent in fact. */
    private static void wins(GiftsOfCourts x, int court, int other, String run) {
        int answer = x.wins(court, other);
        long[] told = Check.rowOf(x);
        int[] best = null;
        for (int n = 0; n <= 4 && best == null; n++) {
            best = bestOf(x, court, other, new int[n], 0, null);
        }
        check.due(run + ": wins", answer, best == null ? -2 : best.length);
        if (best != null) {
            for (int i = 0; i < best.length; i++) {
                check.due(run + ": wins, by", told[i], best[i]);
            }
            check.due(run + ": wins, row", told.length, best.length);
        }
    }

    private static int[] bestOf(GiftsOfCourts x, int court, int other, int[] row, int sent, int[] best) {
        if (sent == row.length) {
            boolean won = x.between(other, court, 0) >= 15;
            return won && (best == null || worth(x, row) < worth(x, best)) ? row.clone() : best;
        }
        int[] better = best;
        for (int g = 0; g < x.count(1); g++) {
            if (x.gift(g, 3) == court) {
                row[sent] = g;
                x.send(g, other);
                better = bestOf(x, court, other, row, sent + 1, better);
                x.undo();
            }
        }
        return better;
    }

    private static int worth(GiftsOfCourts x, int[] gifts) {
        int sum = 0;
        for (int g : gifts) {
            sum += x.gift(g, 1);
        }
        return sum;
    }

    private static void where(GiftsOfCourts x, int gift, String run) {
        int answer = x.where(gift);
        long[] told = Check.rowOf(x);
        int best = -2;
        int least = 1000;
        for (int c = x.count(0) - 1; c >= 0; c--) {
            if (c != x.gift(gift, 3)) {
                best = best < 0 || x.value(gift, c) >= x.value(gift, best) ? c : best;
                least = Math.min(least, x.value(gift, c));
            }
        }
        check.due(run + ": where", answer, best);
        check.due(run + ": where, value", told[0], x.value(gift, best));
        check.due(run + ": where, least", told[1], least);
    }

    /** Every simple path, and every walk by its months. */
    private static void ways(GiftsOfCourts x, int from, int to, String run) {
        int answer = x.way(from, to);
        String told = Arrays.toString(Check.rowOf(x));
        String[] best = {null};
        int fewest = paths(x, to, new int[] {from}, 0, 1000, best);
        check.due(run + ": way", answer, fewest == 1000 ? -2 : fewest);
        if (answer >= 0) {
            check.due(run + ": way " + told + " due " + best[0], told.equals(best[0]), true);
        }
        for (int eats = 0; eats < 10; eats += 3) {
            for (int taken = 1; taken < 30; taken += 5) {
                check.due(run + ": walks", x.walks(from, to, eats, taken), walked(x, from, to, eats, taken));
            }
        }
    }

    private static int paths(GiftsOfCourts x, int to, int[] path, int months, int fewest, String[] best) {
        int last = path[path.length - 1];
        if (last == to) {
            if (months < fewest) {
                best[0] = Arrays.toString(path);
            }
            return Math.min(months, fewest);
        }
        int found = fewest;
        for (int c = 0; c < x.count(0); c++) {
            int next = c;
            boolean fresh = Arrays.stream(path).noneMatch(p -> p == next);
            if (fresh && x.between(last, c, 2) > 0) {
                int[] longer = Arrays.copyOf(path, path.length + 1);
                longer[path.length] = c;
                found = paths(x, to, longer, months + x.between(last, c, 2), found, best);
            }
        }
        return found;
    }

    /** Which amounts of grain a beast can have in a court behind so many months, as sets. */
    private static int walked(GiftsOfCourts x, int from, int to, int eats, int taken) {
        int courts = x.count(0);
        BitSet[][] grain = new BitSet[100][courts];
        for (BitSet[] month : grain) {
            for (int c = 0; c < courts; c++) {
                month[c] = new BitSet();
            }
        }
        grain[0][from].set(taken);
        for (int month = 0; month < 100; month++) {
            if (!grain[month][to].isEmpty()) {
                return month;
            }
            for (int c = 0; c < courts; c++) {
                for (int d = 0; d < courts; d++) {
                    int road = c == d ? -1 : x.between(c, d, 2);
                    for (int had : grain[month][c].stream().toArray()) {
                        if (road > 0 && month + road < 100 && had >= eats * road) {
                            grain[month + road][d].set(had - eats * road + taken);
                        }
                    }
                }
            }
        }
        return -2;
    }

    /** All rows of courts without repeats, the least one first. */
    private static void ring(GiftsOfCourts x, String run) {
        int answer = x.ring();
        String told = Arrays.toString(Check.rowOf(x));
        for (int length = 2; length <= x.count(0); length++) {
            String ring = ringOf(x, new int[length], 0);
            if (ring != null) {
                check.due(run + ": ring", answer, length);
                check.due(run + ": ring " + told + " due " + ring, told.equals(ring), true);
                return;
            }
        }
        check.due(run + ": ring", answer, -2);
    }

    private static String ringOf(GiftsOfCourts x, int[] row, int set) {
        if (set == row.length) {
            int least = 9999;
            for (int i = 0; i < set; i++) {
                least = Math.min(least, x.between(row[i], row[(i + 1) % set], 1));
            }
            int[] told = Arrays.copyOf(row, set + 1);
            told[set] = least;
            return least > 0 ? Arrays.toString(told) : null;
        }
        for (int c = 0; c < x.count(0); c++) {
            boolean fresh = true;
            for (int i = 0; i < set; i++) {
                fresh = fresh && row[i] != c;
            }
            if (fresh) {
                row[set] = c;
                String found = ringOf(x, row, set + 1);
                if (found != null) {
                    return found;
                }
            }
        }
        return null;
    }

    private static void league(GiftsOfCourts x, String run) {
        int answer = x.league();
        long told = x.row(0);
        int best = 0;
        for (int set = (1 << x.count(0)) - 1; set > 0; set--) {
            boolean each = true;
            for (int one = 0; one < x.count(0); one++) {
                for (int other = 0; other < one; other++) {
                    boolean both = (set >> one & 1) + (set >> other & 1) == 2;
                    boolean allied = both && x.between(one, other, 0) >= 15 && x.between(other, one, 0) >= 15;
                    each = each && (!both || allied);
                }
            }
            best = each && Integer.bitCount(set) >= Integer.bitCount(best) ? set : best;
        }
        check.due(run + ": league", answer, Integer.bitCount(best));
        check.due(run + ": league, who", told, best);
    }

    private static void settle(GiftsOfCourts x, String run) {
        int answer = x.settle();
        long told = x.row(0);
        int[] nets = new int[x.count(0)];
        int open = 0;
        for (int c = 0; c < nets.length; c++) {
            nets[c] = x.net(c);
            open += nets[c] != 0 ? 1 : 0;
        }
        check.due(run + ": settle, open", told, open);
        check.due(run + ": settle", answer, payments(nets, 0));
    }

    /** Each court in turn is settled at once with one of those behind it. */
    private static int payments(int[] nets, int court) {
        if (court == nets.length) {
            return 0;
        }
        if (nets[court] == 0) {
            return payments(nets, court + 1);
        }
        int fewest = 1000;
        for (int other = court + 1; other < nets.length; other++) {
            if (nets[court] > 0 != nets[other] > 0 && nets[other] != 0) {
                nets[other] += nets[court];
                fewest = Math.min(fewest, 1 + payments(nets, court + 1));
                nets[other] -= nets[court];
            }
        }
        return fewest;
    }

    private static void law(GiftsOfCourts x, String rule, String run) {
        int answer = Check.law(x, rule);
        long[] told = Check.rowOf(x);
        int old = worthAtHome(x);
        Check.rule(x, rule);
        int other = worthAtHome(x);
        check.due(run + ": law", answer, other - old);
        check.due(run + ": law, new", told[0], other);
        check.due(run + ": law, old", told[1], old);
    }

    private static int worthAtHome(GiftsOfCourts x) {
        int sum = 0;
        for (int g = 0; g < x.count(1); g++) {
            sum += x.value(g, x.gift(g, 3));
        }
        return sum;
    }

    /** No call throws but what the document says, whatever it is given; numbers stay where they belong. */
    private static void wild(Random random) {
        GiftsOfCourts x = drawn(random);
        for (int i = 0; i < 400; i++) {
            try {
                wildCall(x, random);
            } catch (NoSuchElementException e) {
                // court, between, gift and row may
            }
        }
        for (int one = 0; one < x.count(0); one++) {
            check.due("grain", x.court(one, 1) >= 0 && x.court(one, 1) <= 999, true);
            for (int other = 0; other < x.count(0); other++) {
                if (one != other) {
                    int esteem = x.between(one, other, 0);
                    int due = x.between(one, other, 1);
                    check.due("esteem", esteem >= 0 && esteem <= 20, true);
                    check.due("due", due >= 0 && due <= 9999, true);
                }
            }
        }
        check.due("text", x.count(12) <= 80, true);
        check.due("past", x.count(10) <= 15, true);
    }

    private static int any(Random random) {
        return switch (random.nextInt(12)) {
            case 0 -> random.nextInt();
            case 1 -> Integer.MIN_VALUE;
            case 2 -> Integer.MAX_VALUE;
            case 3 -> -1 - random.nextInt(5);
            case 4 -> random.nextInt(100);
            default -> random.nextInt(8);
        };
    }

    private static String anyText(Random random) {
        String signs = random.nextBoolean() ? "0123456789;,smfpq" : "wkrshed()<>=+-*/0123456789";
        StringBuilder text = new StringBuilder();
        for (int i = random.nextInt(random.nextBoolean() ? 81 : 8); i > 0; i--) {
            text.append(random.nextInt(20) == 0 ? (char) random.nextInt(256) : signs.charAt(random.nextInt(signs.length())));
        }
        return text.toString();
    }

    private static void wildCall(GiftsOfCourts x, Random random) {
        int a = any(random);
        int b = any(random);
        int c = any(random);
        int d = any(random);
        switch (random.nextInt(43)) {
            case 0 -> x.sign(a);
            case 1 -> x.end(a);
            case 2 -> Check.courts(x, anyText(random));
            case 3 -> Check.gifts(x, anyText(random));
            case 4 -> Check.rule(x, anyText(random));
            case 5 -> x.court(a, b);
            case 6 -> x.between(a, b, c);
            case 7 -> x.gift(a, b);
            case 8 -> x.road(a, b, c);
            case 9 -> x.sheet(a, b, c, d);
            case 10, 11 -> x.send(a, b);
            case 12 -> x.months(a);
            case 13 -> x.envoy(a, b, c);
            case 14 -> x.forgive(a, b);
            case 15 -> Check.year(x, anyText(random));
            case 16 -> x.undo();
            case 17 -> x.value(a, b);
            case 18 -> x.where(a);
            case 19 -> x.answer(a, b);
            case 20 -> x.wins(a, b);
            case 21 -> x.unseen(a);
            case 22 -> x.swaps();
            case 23 -> x.way(a, b);
            case 24 -> x.walks(a, b, c, d);
            case 25 -> x.alive(a, b, c);
            case 26 -> x.feeds(a);
            case 27 -> x.starves(a, b);
            case 28 -> x.net(a);
            case 29 -> x.settle();
            case 30 -> x.ring();
            case 31 -> x.ranks();
            case 32 -> x.league();
            case 33 -> x.heard(a, b);
            case 34 -> x.forget();
            case 35 -> x.fits();
            case 36 -> x.ask();
            case 37 -> Check.law(x, anyText(random));
            case 38 -> x.rests(a);
            case 39 -> x.years(a, b);
            case 40 -> x.keep(a);
            case 41 -> x.again(a);
            default -> {
                x.count(a);
                x.row(b);
            }
        }
    }
}
