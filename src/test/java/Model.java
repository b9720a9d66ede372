import java.util.ArrayDeque;
import java.util.ArrayList;
import java.util.Arrays;
import java.util.Collections;
import java.util.Comparator;
import java.util.Deque;
import java.util.List;
import java.util.NoSuchElementException;
import java.util.TreeSet;

/**
 * The document once more, written for nothing but to be plain: every question by trying all there is, every state a
 * copy. ModelTest lets it answer the same calls as the program.
 */
final class Model {
    /** All that undo() and again() bring back. */
    static final class State {
        int month;
        List<Integer> grain = new ArrayList<>();
        int[][] esteem = new int[6][6];
        int[][] due = new int[6][6];
        List<Integer> holder = new ArrayList<>();
        List<TreeSet<Integer>> had = new ArrayList<>();
        TreeSet<Integer> dead = new TreeSet<>();

        State copy() {
            State s = new State();
            s.month = month;
            s.grain.addAll(grain);
            for (int c = 0; c < 6; c++) {
                s.esteem[c] = esteem[c].clone();
                s.due[c] = due[c].clone();
            }
            s.holder.addAll(holder);
            for (TreeSet<Integer> courts : had) {
                s.had.add(new TreeSet<>(courts));
            }
            s.dead.addAll(dead);
            return s;
        }
    }

    private final StringBuilder text = new StringBuilder();
    private List<Long> row = new ArrayList<>();
    private final List<String> courts = new ArrayList<>();
    private final List<int[]> gifts = new ArrayList<>();
    private final int[][] road = new int[6][6];
    private State now = new State();
    private String rule = "";
    private final List<int[]> heard = new ArrayList<>();
    private final Deque<State> past = new ArrayDeque<>();
    private final State[] kept = new State[3];

    // ---- small things

    private boolean isCourt(int... which) {
        return Arrays.stream(which).allMatch(c -> c >= 0 && c < courts.size());
    }

    private boolean areTwo(int one, int other) {
        return isCourt(one, other) && one != other;
    }

    private boolean isGift(int g) {
        return g >= 0 && g < gifts.size();
    }

    private int rank(int c) {
        return courts.get(c).charAt(0) - '0';
    }

    private int taste(int c, int kind) {
        return courts.get(c).charAt(1 + kind) - '0';
    }

    private static int put(int v, int least, int most) {
        return v < least ? least : v > most ? most : v;
    }

    private void tell(long... numbers) {
        row = new ArrayList<>();
        for (long number : numbers) {
            row.add(number);
        }
    }

    private static long bits(Iterable<Integer> set) {
        long bits = 0;
        for (int i : set) {
            bits += 1L << i;
        }
        return bits;
    }

    private boolean allied(State s, int one, int other) {
        return one != other && s.esteem[one][other] >= 15 && s.esteem[other][one] >= 15;
    }

    private boolean atWar(State s, int one, int other) {
        return one != other && (s.esteem[one][other] == 0 || s.esteem[other][one] == 0);
    }

    private String read() {
        String it = text.toString();
        text.setLength(0);
        return it;
    }

    // ---- texts

    int sign(int v) {
        if (text.length() > 76) {
            return -1;
        }
        for (int i = 3; i >= 0; i--) {
            text.append((char) (v >> 8 * i & 0xFF));
        }
        return text.length();
    }

    int end(int n) {
        if (n < 0 || n > text.length()) {
            return 0;
        }
        text.setLength(n);
        return 1;
    }

    private static boolean digit(String it, int p) {
        return p < it.length() && it.charAt(p) >= '0' && it.charAt(p) <= '9';
    }

    int courts() {
        String it = read();
        if (it.isEmpty()) {
            return 0;
        }
        List<String> came = new ArrayList<>();
        String line = "";
        for (int p = 0; p <= it.length(); p++) {
            if (p == 41 && it.length() > 41) {
                return -1 - 41;
            }
            if (line.length() == 6) {
                came.add(line);
                line = "";
                if (p == it.length()) {
                    break;
                }
                if (it.charAt(p) != ';') {
                    return -1 - p;
                }
                continue;
            }
            boolean room = courts.size() + came.size() < 6;
            if (!room || !digit(it, p) || line.isEmpty() && it.charAt(p) == '0') {
                return -1 - p;
            }
            line += it.charAt(p);
        }
        for (String court : came) {
            int c = courts.size();
            courts.add(court);
            now.grain.add(50);
            for (int other = 0; other < c; other++) {
                now.esteem[c][other] = 10;
                now.esteem[other][c] = 10;
            }
        }
        past.clear();
        Arrays.fill(kept, null);
        return came.size();
    }

    int gifts() {
        String it = read();
        if (it.isEmpty()) {
            return 0;
        }
        List<int[]> came = new ArrayList<>();
        int p = 0;
        while (true) {
            // Eight lines are 55 signs at most, so what stands at 55 can't be within one that has room.
            if (p >= 55 || gifts.size() + came.size() == 8) {
                return -1 - p;
            }
            if (!digit(it, p) || it.charAt(p) > '4') {
                return -1 - p;
            }
            int kind = it.charAt(p++) - '0';
            if (!digit(it, p)) {
                return -1 - p;
            }
            int digits = digit(it, p + 1) ? 2 : 1;
            int worth = Integer.parseInt(it.substring(p, p + digits));
            if (worth == 0) {
                return -1 - (p + digits - 1);
            }
            p += digits;
            if (p >= it.length() || it.charAt(p) != ',') {
                return -1 - p;
            }
            p++;
            if (!digit(it, p)) {
                return -1 - p;
            }
            int eats = it.charAt(p++) - '0';
            if (!digit(it, p) || !isCourt(it.charAt(p) - '0')) {
                return -1 - p;
            }
            came.add(new int[] {kind, worth, eats, it.charAt(p++) - '0'});
            if (p == it.length()) {
                break;
            }
            if (p >= 55 || it.charAt(p) != ';') {
                return -1 - p;
            }
            p++;
        }
        for (int[] gift : came) {
            gifts.add(gift);
            now.holder.add(gift[3]);
            now.had.add(new TreeSet<>(List.of(gift[3])));
        }
        past.clear();
        Arrays.fill(kept, null);
        return came.size();
    }

    /** Where the first sign stands that can't stand there, or -1: by what is open and what is awaited, sign by sign. */
    static int faultOfRule(String it) {
        Deque<Boolean> compared = new ArrayDeque<>(List.of(false));
        boolean awaited = true;
        int digits = 0;
        for (int p = 0; p < it.length(); p++) {
            char sign = it.charAt(p);
            boolean isDigit = sign >= '0' && sign <= '9';
            if (p == 40) {
                return 40;
            }
            if (awaited) {
                if (sign == '(' && compared.size() <= 4) {
                    compared.push(false);
                } else if (isDigit || "wkrshed".indexOf(sign) >= 0) {
                    awaited = false;
                    digits = isDigit ? 1 : 3;
                } else if (sign != '-') {
                    return p;
                }
            } else if (isDigit) {
                if (digits == 3) {
                    return p;
                }
                digits++;
            } else if (sign == ')') {
                if (compared.size() == 1) {
                    return p;
                }
                compared.pop();
                digits = 3;
            } else if ("<>=".indexOf(sign) >= 0) {
                if (compared.pop()) {
                    return p;
                }
                compared.push(true);
                awaited = true;
            } else if ("+-*/".indexOf(sign) >= 0) {
                awaited = true;
            } else {
                return p;
            }
        }
        return awaited || compared.size() > 1 ? it.length() : -1;
    }

    int rule() {
        String it = read();
        int fault = it.isEmpty() ? -1 : faultOfRule(it);
        if (fault >= 0) {
            return -1 - fault;
        }
        rule = it;
        return 0;
    }

    private int valueBy(String it, State s, int g, int c) {
        int[] gift = gifts.get(g);
        int[] things = {gift[1], taste(c, gift[0]), rank(c), rank(s.holder.get(g)), s.had.get(g).size(), gift[2],
            s.dead.contains(g) ? 1 : 0};
        return put(evaluated(it.isEmpty() ? "w*k/5" : it, things), 0, 999);
    }

    /** The sign that binds least and stands the farthest to the right parts an expression in two. */
    private static int evaluated(String it, int[] things) {
        for (String signs : new String[] {"<>=", "+-", "*/"}) {
            int open = 0;
            for (int p = it.length() - 1; p > 0; p--) {
                char sign = it.charAt(p);
                open += sign == ')' ? 1 : sign == '(' ? -1 : 0;
                boolean between = "<>=+-*/(".indexOf(it.charAt(p - 1)) < 0;
                if (open == 0 && signs.indexOf(sign) >= 0 && between) {
                    int left = evaluated(it.substring(0, p), things);
                    int right = evaluated(it.substring(p + 1), things);
                    switch (sign) {
                        case '<': return left < right ? 1 : 0;
                        case '>': return left > right ? 1 : 0;
                        case '=': return left == right ? 1 : 0;
                        case '+': return left + right;
                        case '-': return left - right;
                        case '*': return left * right;
                        default: return right == 0 ? 0 : left / right;
                    }
                }
            }
        }
        if (it.charAt(0) == '-') {
            return -evaluated(it.substring(1), things);
        }
        if (it.charAt(0) == '(') {
            return evaluated(it.substring(1, it.length() - 1), things);
        }
        int letter = "wkrshed".indexOf(it.charAt(0));
        return letter >= 0 ? things[letter] : Integer.parseInt(it);
    }

    private int valueOf(State s, int g, int c) {
        return valueBy(rule, s, g, c);
    }

    // ---- what is there

    private static NoSuchElementException none() {
        return new NoSuchElementException();
    }

    int court(int c, int what) {
        if (!isCourt(c) || what < 0 || what > 5 && what < 10 || what > 14) {
            throw none();
        }
        if (what >= 10) {
            return taste(c, what - 10);
        }
        List<Integer> set = new ArrayList<>();
        if (what == 2) {
            for (int g = 0; g < gifts.size(); g++) {
                if (now.holder.get(g) == c) {
                    set.add(g);
                }
            }
        }
        for (int other = 0; other < courts.size(); other++) {
            if (what == 3 && allied(now, c, other) || what == 4 && atWar(now, c, other)) {
                set.add(other);
            }
        }
        return what == 0 ? rank(c) : what == 1 ? now.grain.get(c) : what == 5 ? Arrays.stream(now.due[c]).sum() : (int) bits(set);
    }

    int between(int one, int other, int what) {
        if (!areTwo(one, other) || what < 0 || what > 2) {
            throw none();
        }
        int months = road[one][other] == 0 ? -1 : road[one][other];
        return new int[] {now.esteem[one][other], now.due[one][other], months}[what];
    }

    int gift(int g, int what) {
        if (!isGift(g) || what < 0 || what > 5) {
            throw none();
        }
        int[] gift = gifts.get(g);
        return new int[] {gift[0], gift[1], gift[2], now.holder.get(g), (int) bits(now.had.get(g)),
            now.dead.contains(g) ? 1 : 0}[what];
    }

    int road(int one, int other, int n) {
        if (!areTwo(one, other) || n < 0 || n > 9) {
            return -1;
        }
        int had = road[one][other];
        road[one][other] = n;
        road[other][one] = n;
        return had;
    }

    int sheet(int kind, int n, int f, int step) {
        if (kind < 0 || kind > 3 || n > 6) {
            return -1;
        }
        if (kind < 3 && n < 0) {
            return -2;
        }
        int sum = 0;
        for (int c = 0; c < courts.size(); c++) {
            int entry = f;
            for (int i = 0; i < c; i++) {
                entry += step;
            }
            entry = kind == 0 ? (byte) entry : kind == 1 ? (short) entry : entry;
            int grain = kind == 3 || c >= n ? 0 : put(entry, 0, 999);
            now.grain.set(c, grain);
            sum += grain;
        }
        return kind == 3 ? -3 : sum;
    }

    // ---- acts

    /** A GIFT IS SENT: ESTEEM of the one that gets it for the one that had it. */
    private int sent(State s, int g, int b) {
        int a = s.holder.get(g);
        int v = valueOf(s, g, b);
        int owed = s.due[a][b];
        boolean known = s.had.get(g).contains(b);
        boolean dead = s.dead.contains(g);
        int more;
        if (known) {
            more = -6;
        } else if (dead) {
            more = -4;
        } else if (owed > 0) {
            more = v * 2 < owed ? -5 : v > owed * 2 ? -2 : 4;
        } else {
            more = 2;
        }
        s.esteem[b][a] = put(s.esteem[b][a] + more, 0, 20);
        if (!known && !dead) {
            if (owed > 0) {
                s.due[a][b] = 0;
            } else {
                s.due[b][a] = put(s.due[b][a] + v, 0, 9999);
            }
        }
        s.holder.set(g, b);
        s.had.get(g).add(b);
        return s.esteem[b][a];
    }

    private boolean eats(State s, int g) {
        return (gifts.get(g)[0] == 1 || gifts.get(g)[0] == 4) && !s.dead.contains(g);
    }

    private void month(State s) {
        for (int c = 0; c < courts.size(); c++) {
            s.grain.set(c, put(s.grain.get(c) + 2 * rank(c), 0, 999));
        }
        for (int g = 0; g < gifts.size(); g++) {
            if (eats(s, g)) {
                int c = s.holder.get(g);
                int left = s.grain.get(c) - gifts.get(g)[2];
                s.grain.set(c, Math.max(0, left));
                if (left < 0) {
                    s.dead.add(g);
                }
            }
        }
        s.month++;
    }

    private void remember(State s) {
        past.push(s);
        if (past.size() > 15) {
            past.removeLast();
        }
    }

    int send(int g, int c) {
        if (!isGift(g) || !isCourt(c)) {
            return -1;
        }
        if (now.holder.get(g) == c) {
            return -2;
        }
        remember(now.copy());
        tell(valueOf(now, g, c), now.had.get(g).contains(c) ? 1 : 0);
        return sent(now, g, c);
    }

    int months(int n) {
        if (n < 0 || n > 60) {
            return -1;
        }
        State before = now.copy();
        remember(before);
        for (int i = 0; i < n; i++) {
            month(now);
        }
        TreeSet<Integer> died = new TreeSet<>(now.dead);
        died.removeAll(before.dead);
        tell(bits(died), count(3));
        return died.size();
    }

    int envoy(int c, int other, int n) {
        if (!areTwo(c, other) || n == 0 || n < -9 || n > 9) {
            return -1;
        }
        remember(now.copy());
        now.esteem[c][other] = put(now.esteem[c][other] + n, 0, 20);
        return now.esteem[c][other];
    }

    int forgive(int c, int other) {
        if (!areTwo(c, other)) {
            return -1;
        }
        int it = now.due[c][other];
        if (it == 0) {
            return -2;
        }
        remember(now.copy());
        now.due[c][other] = 0;
        return it;
    }

    int year() {
        String it = read();
        List<String> acts = new ArrayList<>();
        int p = 0;
        while (p < it.length()) {
            int kind = "smfpq".indexOf(it.charAt(p));
            if (p >= 60 || kind < 0) {
                return -1 - p;
            }
            int length = new int[] {3, 2, 3, 4, 4}[kind];
            for (int i = 1; i < length; i++) {
                if (p + i >= 60 || !digit(it, p + i) || i == 3 && it.charAt(p + i) == '0') {
                    return -1 - (p + i);
                }
            }
            acts.add(it.substring(p, p + length));
            p += length;
        }
        State before = now.copy();
        Deque<State> pastBefore = new ArrayDeque<>(past);
        int done = 0;
        boolean refused = false;
        for (String act : acts) {
            int one = act.charAt(1) - '0';
            int two = act.length() > 2 ? act.charAt(2) - '0' : 0;
            int three = act.length() > 3 ? act.charAt(3) - '0' : 0;
            int answer;
            switch (act.charAt(0)) {
                case 's': answer = send(one, two); break;
                case 'm': answer = months(one); break;
                case 'f': answer = forgive(one, two); break;
                case 'p': answer = envoy(one, two, three); break;
                default: answer = envoy(one, two, -three); break;
            }
            if (answer < 0) {
                refused = true;
                break;
            }
            done++;
        }
        past.clear();
        past.addAll(pastBefore);
        if (done > 0) {
            remember(before);
        }
        tell(refused ? 1 : 0, now.dead.size());
        return done;
    }

    int undo() {
        if (past.isEmpty()) {
            return -1;
        }
        now = past.pop();
        return past.size();
    }

    // ---- what it is worth

    int value(int g, int c) {
        return isGift(g) && isCourt(c) ? valueOf(now, g, c) : -1;
    }

    int where(int g) {
        if (!isGift(g)) {
            return -1;
        }
        List<Integer> others = new ArrayList<>();
        for (int c = 0; c < courts.size(); c++) {
            if (c != now.holder.get(g)) {
                others.add(c);
            }
        }
        if (others.isEmpty()) {
            return -2;
        }
        others.sort(Comparator.comparingInt(c -> -valueOf(now, g, c)));
        tell(valueOf(now, g, others.get(0)), valueOf(now, g, others.get(others.size() - 1)));
        return others.get(0);
    }

    private List<Integer> held(int c) {
        List<Integer> held = new ArrayList<>();
        for (int g = 0; g < gifts.size(); g++) {
            if (now.holder.get(g) == c) {
                held.add(g);
            }
        }
        return held;
    }

    int answer(int c, int other) {
        if (!areTwo(c, other)) {
            return -1;
        }
        List<Integer> held = held(c);
        if (held.isEmpty()) {
            return -2;
        }
        held.sort(Comparator.<Integer>comparingInt(g -> -sent(now.copy(), g, other)).thenComparingInt(g -> gifts.get(g)[1]));
        tell(sent(now.copy(), held.get(0), other), valueOf(now, held.get(0), other));
        return held.get(0);
    }

    private void rowsOf(List<Integer> from, List<Integer> begun, int n, List<List<Integer>> rows) {
        if (begun.size() == n) {
            rows.add(new ArrayList<>(begun));
            return;
        }
        for (int g : from) {
            if (!begun.contains(g)) {
                begun.add(g);
                rowsOf(from, begun, n, rows);
                begun.remove(begun.size() - 1);
            }
        }
    }

    int wins(int c, int other) {
        if (!areTwo(c, other)) {
            return -1;
        }
        for (int n = 0; n <= 4; n++) {
            List<List<Integer>> rows = new ArrayList<>();
            rowsOf(held(c), new ArrayList<>(), n, rows);
            rows.removeIf(gone -> {
                State s = now.copy();
                gone.forEach(g -> sent(s, g, other));
                return s.esteem[other][c] < 15;
            });
            // The sort keeps the order of equal ones, and the rows come from the least one on.
            rows.sort(Comparator.comparingInt(gone -> gone.stream().mapToInt(g -> gifts.get(g)[1]).sum()));
            if (!rows.isEmpty()) {
                tell(rows.get(0).stream().mapToLong(g -> g).toArray());
                return n;
            }
        }
        return -2;
    }

    int unseen(int g) {
        if (!isGift(g)) {
            return -1;
        }
        TreeSet<Integer> unseen = new TreeSet<>();
        for (int c = 0; c < courts.size(); c++) {
            int court = c;
            boolean told = now.had.get(g).stream().anyMatch(h -> !h.equals(now.holder.get(g)) && allied(now, court, h));
            if (!now.had.get(g).contains(c) && !told) {
                unseen.add(c);
            }
        }
        tell(unseen.size());
        return (int) bits(unseen);
    }

    int swaps() {
        List<long[]> pairs = new ArrayList<>();
        for (int g = 0; g < gifts.size(); g++) {
            for (int h = g + 1; h < gifts.size(); h++) {
                int a = now.holder.get(g);
                int b = now.holder.get(h);
                int gainA = valueOf(now, h, a) - valueOf(now, g, a);
                int gainB = valueOf(now, g, b) - valueOf(now, h, b);
                if (a != b && gainA > 0 && gainB > 0) {
                    pairs.add(new long[] {g, h, gainA + gainB});
                }
            }
        }
        tell(pairs.isEmpty() ? new long[0] : Collections.min(pairs, Comparator.comparingLong(p -> -p[2])));
        return pairs.size();
    }

    // ---- roads

    private void waysOf(List<Integer> begun, int to, List<List<Integer>> ways) {
        int last = begun.get(begun.size() - 1);
        if (last == to) {
            ways.add(new ArrayList<>(begun));
            return;
        }
        for (int c = 0; c < courts.size(); c++) {
            if (road[last][c] > 0 && !begun.contains(c)) {
                begun.add(c);
                waysOf(begun, to, ways);
                begun.remove(begun.size() - 1);
            }
        }
    }

    private int lengthOf(List<Integer> way) {
        int months = 0;
        for (int i = 0; i + 1 < way.size(); i++) {
            months += road[way.get(i)][way.get(i + 1)];
        }
        return months;
    }

    private List<Integer> shortest(int from, int to) {
        List<List<Integer>> ways = new ArrayList<>();
        waysOf(new ArrayList<>(List.of(from)), to, ways);
        return ways.isEmpty() ? null : Collections.min(ways, Comparator.comparingInt(this::lengthOf));
    }

    int way(int from, int to) {
        if (!isCourt(from, to)) {
            return -1;
        }
        List<Integer> way = shortest(from, to);
        if (way == null) {
            return -2;
        }
        tell(way.stream().mapToLong(c -> c).toArray());
        return lengthOf(way);
    }

    int walks(int from, int to, int e, int g) {
        if (!isCourt(from, to) || e < 0 || e > 9 || g < 0 || g > 99) {
            return -1;
        }
        // In which months it can be where with how much; 99 months of 9 are the most that it can eat.
        List<TreeSet<List<Integer>>> at = new ArrayList<>();
        Comparator<List<Integer>> order = Comparator.<List<Integer>>comparingInt(x -> x.get(0)).thenComparingInt(x -> x.get(1));
        for (int m = 0; m <= 99; m++) {
            at.add(new TreeSet<>(order));
        }
        at.get(0).add(List.of(from, g));
        for (int m = 0; m <= 99; m++) {
            for (List<Integer> it : at.get(m)) {
                if (it.get(0) == to) {
                    return m;
                }
                for (int c = 0; c < courts.size(); c++) {
                    int months = road[it.get(0)][c];
                    int left = it.get(1) - e * months;
                    if (months > 0 && left >= 0 && m + months <= 99) {
                        at.get(m + months).add(List.of(c, Math.min(1000, left + g)));
                    }
                }
            }
        }
        return -2;
    }

    int alive(int from, int to, int p) {
        if (!areTwo(from, to) || p < 0 || p > 10) {
            return -1;
        }
        List<Integer> way = shortest(from, to);
        if (way == null || lengthOf(way) > 12) {
            return -2;
        }
        long upper = 1;
        long lower = 1;
        for (int i = 0; i < lengthOf(way); i++) {
            upper *= 10 - p;
            lower *= 10;
        }
        if (upper == 0) {
            lower = 1;
        }
        for (int divisor : new int[] {2, 5}) {
            while (upper > 0 && upper % divisor == 0 && lower % divisor == 0) {
                upper /= divisor;
                lower /= divisor;
            }
        }
        tell(upper, lower);
        return 0;
    }

    // ---- grain

    /** In which month from now on a gift of a court first dies, which is dead then and was not; null for none in 99. */
    private int[] firstDeath(State s, int c) {
        for (int m = 1; m <= 99; m++) {
            State before = s.copy();
            month(s);
            for (int g = 0; g < gifts.size(); g++) {
                if (s.holder.get(g) == c && s.dead.contains(g) && !before.dead.contains(g)) {
                    return new int[] {m, g};
                }
            }
        }
        return null;
    }

    int feeds(int c) {
        if (!isCourt(c)) {
            return -1;
        }
        State s = now.copy();
        int[] death = firstDeath(s, c);
        if (death == null) {
            return -2;
        }
        tell(death[1], s.grain.get(c));
        return death[0];
    }

    int starves(int c, int other) {
        if (!areTwo(c, other)) {
            return -1;
        }
        int best = -2;
        int soonest = 100;
        for (int g : held(c)) {
            if (eats(now, g)) {
                State s = now.copy();
                s.holder.set(g, other);
                int[] death = firstDeath(s, other);
                if (death != null && death[0] < soonest) {
                    soonest = death[0];
                    best = g;
                }
            }
        }
        if (best >= 0) {
            tell(soonest);
        }
        return best;
    }

    // ---- debts

    private int claims(int c) {
        int sum = 0;
        for (int other = 0; other < 6; other++) {
            sum += now.due[other][c];
        }
        return sum;
    }

    int net(int c) {
        if (!isCourt(c)) {
            return -100000;
        }
        int owes = Arrays.stream(now.due[c]).sum();
        tell(claims(c), owes);
        return claims(c) - owes;
    }

    /** The fewest payments: the first that is not even pays to, or is paid by, each other one in turn. */
    private static int payments(int[] nets) {
        int first = 0;
        while (first < nets.length && nets[first] == 0) {
            first++;
        }
        if (first == nets.length) {
            return 0;
        }
        int fewest = 99;
        for (int other = first + 1; other < nets.length; other++) {
            if (nets[first] > 0 != nets[other] > 0 && nets[other] != 0) {
                int[] left = nets.clone();
                left[other] += left[first];
                left[first] = 0;
                fewest = Math.min(fewest, 1 + payments(left));
            }
        }
        return fewest;
    }

    int settle() {
        int[] nets = new int[courts.size()];
        int open = 0;
        for (int c = 0; c < nets.length; c++) {
            nets[c] = claims(c) - Arrays.stream(now.due[c]).sum();
            open += nets[c] == 0 ? 0 : 1;
        }
        tell(open);
        return payments(nets);
    }

    int ring() {
        List<List<Integer>> rings = new ArrayList<>();
        List<Integer> all = new ArrayList<>();
        for (int c = 0; c < courts.size(); c++) {
            all.add(c);
        }
        for (int n = 2; n <= courts.size(); n++) {
            rowsOf(all, new ArrayList<>(), n, rings);
            rings.removeIf(ring -> Collections.min(ring) < ring.get(0) || leastDue(ring) == 0);
            if (!rings.isEmpty()) {
                List<Integer> ring = rings.get(0);
                List<Long> told = new ArrayList<>();
                ring.forEach(c -> told.add((long) c));
                told.add((long) leastDue(ring));
                row = told;
                return n;
            }
        }
        return -2;
    }

    private int leastDue(List<Integer> ring) {
        int least = 9999;
        for (int i = 0; i < ring.size(); i++) {
            least = Math.min(least, now.due[ring.get(i)][ring.get((i + 1) % ring.size())]);
        }
        return least;
    }

    // ---- esteem

    private int esteemFor(State s, int c) {
        int sum = 0;
        for (int other = 0; other < courts.size(); other++) {
            sum += other == c ? 0 : s.esteem[other][c];
        }
        return sum;
    }

    int ranks() {
        if (courts.isEmpty()) {
            return -2;
        }
        List<Integer> order = new ArrayList<>();
        for (int c = 0; c < courts.size(); c++) {
            order.add(c);
        }
        order.sort(Comparator.comparingInt(c -> -esteemFor(now, c)));
        tell(order.stream().mapToLong(c -> c).toArray());
        row.add((long) esteemFor(now, order.get(0)));
        return order.get(0);
    }

    int league() {
        int best = 0;
        for (int set = (1 << courts.size()) - 1; set > 0; set--) {
            boolean each = true;
            for (int one = 0; one < courts.size(); one++) {
                for (int other = 0; other < one; other++) {
                    boolean both = (set >> one & 1) == 1 && (set >> other & 1) == 1;
                    each &= !both || allied(now, one, other);
                }
            }
            if (each && Integer.bitCount(set) >= Integer.bitCount(best)) {
                best = set;
            }
        }
        tell(best);
        return Integer.bitCount(best);
    }

    // ---- which it was, laws

    int heard(int what, int v) {
        boolean right = what == 0 && v >= 0 && v <= 4 || what == 1 && v >= 1 && v <= 99 || what == 2 && v >= 0 && v <= 5
                || what == 3 && (v == 0 || v == 1);
        if (!right || heard.size() == 12) {
            return -1;
        }
        heard.add(new int[] {what, v});
        return heard.size();
    }

    int forget() {
        int were = heard.size();
        heard.clear();
        return were;
    }

    private List<Integer> fitting() {
        List<Integer> fitting = new ArrayList<>();
        for (int g = 0; g < gifts.size(); g++) {
            boolean fits = true;
            for (int[] clue : heard) {
                switch (clue[0]) {
                    case 0: fits &= gifts.get(g)[0] == clue[1]; break;
                    case 1: fits &= gifts.get(g)[1] >= clue[1]; break;
                    case 2: fits &= now.had.get(g).contains(clue[1]); break;
                    default: fits &= now.dead.contains(g) == (clue[1] == 1); break;
                }
            }
            if (fits) {
                fitting.add(g);
            }
        }
        return fitting;
    }

    int fits() {
        tell(fitting().size(), fitting().stream().mapToInt(g -> gifts.get(g)[1]).sum());
        return (int) bits(fitting());
    }

    int ask() {
        List<Integer> fitting = fitting();
        if (fitting.isEmpty() || courts.isEmpty()) {
            return -2;
        }
        int best = -2;
        long fewest = 99;
        for (int c = courts.size() - 1; c >= 0; c--) {
            int court = c;
            long yes = fitting.stream().filter(g -> now.had.get(g).contains(court)).count();
            long left = Math.max(yes, fitting.size() - yes);
            if (left <= fewest) {
                fewest = left;
                best = c;
            }
        }
        tell(fewest);
        return best;
    }

    int law() {
        String it = read();
        int fault = it.isEmpty() ? -1 : faultOfRule(it);
        if (fault >= 0) {
            return -10000 - fault;
        }
        int by = 0;
        int byRule = 0;
        for (int g = 0; g < gifts.size(); g++) {
            by += valueBy(it, now, g, now.holder.get(g));
            byRule += valueOf(now, g, now.holder.get(g));
        }
        tell(by, byRule);
        return by - byRule;
    }

    // ---- rests, years

    int rests(int v) {
        if (v < 0 || v > 20) {
            return -1;
        }
        int[][] has = new int[10][10];
        for (int x = 0; x < 10; x++) {
            for (int y = 0; y < 10; y++) {
                has[x][y] = (x > y ? v : x == y ? v / 2 : 0) - x - (x > 2 * y ? 3 : 0);
            }
        }
        List<long[]> pairs = new ArrayList<>();
        for (int x = 0; x < 10; x++) {
            for (int y = 0; y < 10; y++) {
                boolean rests = true;
                for (int z = 0; z < 10; z++) {
                    rests &= has[z][y] <= has[x][y] && has[z][x] <= has[y][x];
                }
                if (rests) {
                    pairs.add(new long[] {x, y});
                }
            }
        }
        tell(pairs.isEmpty() ? new long[0] : pairs.get(0));
        return pairs.size();
    }

    private int drawn;

    private int draw(int n) {
        drawn = drawn * 1103515245 + 12345;
        return (int) (Integer.toUnsignedLong(drawn) / 65536 % n);
    }

    int years(int seed, int n) {
        if (n < 1 || n > 60) {
            return -1;
        }
        State s = now.copy();
        drawn = seed;
        int sent = 0;
        for (int i = 0; i < n; i++) {
            if (draw(3) == 0) {
                month(s);
            } else if (!gifts.isEmpty()) {
                int g = draw(gifts.size());
                int c = draw(courts.size());
                if (s.holder.get(g) != c) {
                    sent(s, g, c);
                    sent++;
                }
            }
        }
        int esteem = 0;
        for (int c = 0; c < courts.size(); c++) {
            esteem += esteemFor(s, c);
        }
        tell(s.dead.size(), esteem);
        return sent;
    }

    // ---- kept

    int keep(int i) {
        if (i < 0 || i > 2) {
            return 0;
        }
        kept[i] = now.copy();
        return 1;
    }

    int again(int i) {
        if (i < 0 || i > 2 || kept[i] == null) {
            return 0;
        }
        now = kept[i].copy();
        past.clear();
        return 1;
    }

    int count(int what) {
        int allied = 0;
        int warring = 0;
        int dues = 0;
        int roads = 0;
        for (int one = 0; one < courts.size(); one++) {
            for (int other = 0; other < courts.size(); other++) {
                dues += now.due[one][other];
                allied += one < other && allied(now, one, other) ? 1 : 0;
                warring += one < other && atWar(now, one, other) ? 1 : 0;
                roads += one < other && road[one][other] > 0 ? 1 : 0;
            }
        }
        int grain = now.grain.stream().mapToInt(g -> g).sum();
        int[] counts = {courts.size(), gifts.size(), now.month, grain, (int) bits(now.dead), allied, warring, dues, roads,
            heard.size(), past.size(), row.size(), text.length()};
        return what < 0 || what >= counts.length ? -100 : counts[what];
    }

    long row(int i) {
        if (i < 0 || i >= row.size()) {
            throw none();
        }
        return row.get(i);
    }
}
