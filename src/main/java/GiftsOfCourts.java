import java.util.NoSuchElementException;

/** Courts that send each other gifts: what they think of each other, owe each other, feed and know again. */
public final class GiftsOfCourts {
    public static final int NONE = -1;

    private static final int IN_VAIN = -2;
    private static final int SHEET_MISSING = -3;
    private static final int NO_COUNT = -100;
    private static final int NO_NET = -100000;
    private static final int LAW_FAULT = -10000;

    private static final int NO_SIGN = -1;
    private static final int MOST_SIGNS = 80;
    private static final int COURT_SIGNS = 41;
    private static final int GIFT_SIGNS = 55;
    private static final int RULE_SIGNS = 40;
    private static final int YEAR_SIGNS = 60;

    private static final int MOST_COURTS = 6;
    private static final int MOST_GIFTS = 8;
    private static final int KINDS = 5;
    private static final int COURT_DIGITS = 1 + KINDS;
    private static final int FIRST_GRAIN = 50;
    private static final int MOST_GRAIN = 999;
    private static final int FIRST_ESTEEM = 10;
    private static final int MOST_ESTEEM = 20;
    private static final int ALLIED_ESTEEM = 15;
    private static final int MOST_DUE = 9999;
    private static final int MOST_VALUE = 999;
    private static final int BEAST = 1;
    private static final int BEAR = 4;

    private static final int MOST_ROAD = 9;
    private static final int MOST_PAST = 15;
    private static final int MOST_KEPT = 3;
    private static final int MOST_ROW = 8;
    private static final int MOST_HEARD = 12;
    private static final int MOST_WOOING = 4;
    private static final int MOST_PARENTHESES = 4;
    private static final int LONGEST_MONTHS = 60;
    private static final int LAST_MONTH = 99;
    private static final int LAST_LIVING_MONTH = 12;
    private static final int MOST_DRAWN = 60;
    private static final int MOST_SENT = 9;
    private static final int MOST_PRIZE = 20;

    private static final int TASTE_ASKED = 10;

    private final Text text;
    private final Row told;
    private final Realm realm;
    private final State now;
    private final State trial;
    private final Past past;
    private final State[] kept;
    private int keptThere;
    private Rule ruling;
    private Rule draft;
    private final Roads roads;
    private final Debts debts;
    private final Wooing wooing;
    private final Clues clues;

    public GiftsOfCourts() {
        text = new Text();
        told = new Row();
        realm = new Realm();
        now = new State();
        trial = new State();
        past = new Past();
        kept = new State[MOST_KEPT];
        for (int i = 0; i < MOST_KEPT; i++) {
            kept[i] = new State();
        }
        ruling = new Rule(text);
        draft = new Rule(text);
        roads = new Roads(realm);
        debts = new Debts(realm);
        wooing = new Wooing(realm, now);
        clues = new Clues(realm);
    }

    // ---- courts, gifts, roads

    public int sign(int v) {
        return text.addFour(v) ? text.length : NONE;
    }

    public boolean end(int n) {
        if (n < 0 || n > text.length) {
            return false;
        }
        text.length = n;
        return true;
    }

    public int courts() {
        int lines = readCourts();
        text.length = 0;
        if (lines > 0) {
            for (int i = 0; i < lines; i++) {
                settleIn(realm.courtCount);
                realm.courtCount++;
            }
            forgetStates();
        }
        return lines;
    }

    public int gifts() {
        int lines = readGifts();
        text.length = 0;
        if (lines > 0) {
            realm.giftCount += lines;
            forgetStates();
        }
        return lines;
    }

    public int rule() {
        int fault = draft.read();
        text.length = 0;
        if (fault >= 0) {
            return -1 - fault;
        }
        Rule former = ruling;
        ruling = draft;
        draft = former;
        return 0;
    }

    public int court(int court, int what) throws NoSuchElementException {
        if (!realm.isCourt(court)) {
            throw new NoSuchElementException();
        }
        if (what >= TASTE_ASKED && what < TASTE_ASKED + KINDS) {
            return realm.tasteOf(court, what - TASTE_ASKED);
        }
        switch (what) {
            case 0:
                return realm.rank[court];
            case 1:
                return now.grain[court];
            case 2:
                return realm.heldBy(now, court);
            case 3:
                return realm.alliesOf(now, court);
            case 4:
                return realm.foesOf(now, court);
            case 5:
                return debts.owedBy(now, court);
            default:
                throw new NoSuchElementException();
        }
    }

    public int between(int one, int other, int what) throws NoSuchElementException {
        if (!realm.areTwoCourts(one, other)) {
            throw new NoSuchElementException();
        }
        int pair = pairOf(one, other);
        switch (what) {
            case 0:
                return now.esteem[pair];
            case 1:
                return now.due[pair];
            case 2:
                return realm.road[pair] > 0 ? realm.road[pair] : NONE;
            default:
                throw new NoSuchElementException();
        }
    }

    public int gift(int gift, int what) throws NoSuchElementException {
        if (!realm.isGift(gift)) {
            throw new NoSuchElementException();
        }
        switch (what) {
            case 0:
                return realm.kind[gift];
            case 1:
                return realm.worth[gift];
            case 2:
                return realm.eats[gift];
            case 3:
                return now.holder[gift];
            case 4:
                return now.had[gift];
            case 5:
                return now.isDead(gift) ? 1 : 0;
            default:
                throw new NoSuchElementException();
        }
    }

    public int road(int one, int other, int n) {
        if (!realm.areTwoCourts(one, other) || n < 0 || n > MOST_ROAD) {
            return NONE;
        }
        int former = realm.road[pairOf(one, other)];
        realm.road[pairOf(one, other)] = n;
        realm.road[pairOf(other, one)] = n;
        return former;
    }

    public int sheet(int kind, int n, int f, int step) {
        if (kind < 0 || kind > 3 || n > MOST_COURTS) {
            return NONE;
        }
        boolean missing = kind == 3;
        if (!missing && n < 0) {
            return IN_VAIN;
        }
        for (int c = 0; c < realm.courtCount; c++) {
            boolean written = !missing && c < n;
            now.grain[c] = written ? clamped(sheetEntry(kind, f + c * step), MOST_GRAIN) : 0;
        }
        return missing ? SHEET_MISSING : realm.allGrain(now);
    }

    // ---- gifts, months

    public int send(int gift, int court) {
        int refusal = sendRefusal(gift, court);
        if (refusal < 0) {
            return refusal;
        }
        past.remember(now);
        int sender = now.holder[gift];
        int value = realm.valueFor(ruling, now, gift, court);
        int known = now.hadIt(gift, court) ? 1 : 0;
        realm.deliver(now, gift, court, value);
        told.tellTwo(value, known);
        return now.esteem[pairOf(court, sender)];
    }

    public int months(int n) {
        if (n < 0 || n > LONGEST_MONTHS) {
            return NONE;
        }
        past.remember(now);
        int deadBefore = now.dead;
        passMonths(n);
        int died = now.dead & ~deadBefore;
        told.tellTwo(died, realm.allGrain(now));
        return Integer.bitCount(died);
    }

    public int envoy(int court, int other, int n) {
        if (isEnvoyRefused(court, other, n)) {
            return NONE;
        }
        past.remember(now);
        hearEnvoy(court, other, n);
        return now.esteem[pairOf(court, other)];
    }

    public int forgive(int court, int other) {
        int refusal = forgiveRefusal(court, other);
        if (refusal < 0) {
            return refusal;
        }
        past.remember(now);
        int former = now.due[pairOf(court, other)];
        now.due[pairOf(court, other)] = 0;
        return former;
    }

    public int year() {
        int fault = yearFault();
        if (fault >= 0) {
            text.length = 0;
            return -1 - fault;
        }
        past.mark(now);
        int done = 0;
        boolean refused = false;
        int p = 0;
        for (int act = 0; act < YEAR_SIGNS && p < text.length && !refused; act++) {
            if (doAct(p)) {
                done++;
            } else {
                refused = true;
            }
            p += actSigns(text.signAt(p, YEAR_SIGNS));
        }
        text.length = 0;
        if (done > 0) {
            past.commit();
        }
        told.tellTwo(refused ? 1 : 0, Integer.bitCount(now.dead));
        return done;
    }

    public int undo() {
        return past.restore(now) ? past.size : NONE;
    }

    // ---- what it is worth

    public int value(int gift, int court) {
        if (!realm.isGift(gift) || !realm.isCourt(court)) {
            return NONE;
        }
        return realm.valueFor(ruling, now, gift, court);
    }

    public int where(int gift) {
        if (!realm.isGift(gift)) {
            return NONE;
        }
        int best = IN_VAIN;
        int most = NONE;
        int least = MOST_VALUE;
        for (int c = 0; c < realm.courtCount; c++) {
            if (c != now.holder[gift]) {
                int value = realm.valueFor(ruling, now, gift, c);
                if (value > most) {
                    most = value;
                    best = c;
                }
                least = Math.min(least, value);
            }
        }
        if (best >= 0) {
            told.tellTwo(most, least);
        }
        return best;
    }

    public int answer(int court, int other) {
        if (!realm.areTwoCourts(court, other)) {
            return NONE;
        }
        int esteemNow = now.esteem[pairOf(other, court)];
        int due = now.due[pairOf(court, other)];
        int best = IN_VAIN;
        int bestEsteem = NONE;
        int bestValue = 0;
        for (int g = 0; g < realm.giftCount; g++) {
            if (now.holder[g] == court) {
                int value = realm.valueFor(ruling, now, g, other);
                int esteem = clamped(esteemNow + now.esteemGained(g, other, due, value), MOST_ESTEEM);
                boolean cheaper = best >= 0 && esteem == bestEsteem && realm.worth[g] < realm.worth[best];
                if (esteem > bestEsteem || cheaper) {
                    best = g;
                    bestEsteem = esteem;
                    bestValue = value;
                }
            }
        }
        if (best >= 0) {
            told.tellTwo(bestEsteem, bestValue);
        }
        return best;
    }

    public int wins(int court, int other) {
        if (!realm.areTwoCourts(court, other)) {
            return NONE;
        }
        int fewest = wooing.fewestGifts(ruling, court, other);
        if (fewest >= 0) {
            told.clear();
            for (int i = 0; i < fewest && i < MOST_WOOING; i++) {
                told.tell(wooing.best[i]);
            }
        }
        return fewest;
    }

    public int unseen(int gift) {
        if (!realm.isGift(gift)) {
            return NONE;
        }
        int witnesses = now.had[gift] & ~(1 << now.holder[gift]);
        int courts = 0;
        for (int c = 0; c < realm.courtCount; c++) {
            boolean betrayed = (realm.alliesOf(now, c) & witnesses) != 0;
            if (!now.hadIt(gift, c) && !betrayed) {
                courts |= 1 << c;
            }
        }
        told.tellOne(Integer.bitCount(courts));
        return courts;
    }

    public int swaps() {
        int found = 0;
        int best = 0;
        told.clear();
        for (int g = 0; g < realm.giftCount; g++) {
            for (int h = g + 1; h < realm.giftCount; h++) {
                int gain = swapGain(g, h);
                if (gain > 0) {
                    found++;
                }
                if (gain > best) {
                    best = gain;
                    told.tellTwo(g, h);
                    told.tell(gain);
                }
            }
        }
        return found;
    }

    // ---- roads

    public int way(int from, int to) {
        if (!realm.isCourt(from) || !realm.isCourt(to)) {
            return NONE;
        }
        int fewest = roads.fewestMonths(from, to);
        if (fewest < 0) {
            return IN_VAIN;
        }
        roads.tellWay(from, told);
        return fewest;
    }

    public int walks(int from, int to, int e, int g) {
        boolean fitting = e >= 0 && e <= 9 && g >= 0 && g <= 99;
        if (!fitting || !realm.isCourt(from) || !realm.isCourt(to)) {
            return NONE;
        }
        return roads.fewestFedMonths(from, to, e, g);
    }

    public int alive(int from, int to, int p) {
        if (!realm.areTwoCourts(from, to) || p < 0 || p > 10) {
            return NONE;
        }
        int fewest = roads.fewestMonths(from, to);
        if (fewest < 0 || fewest > LAST_LIVING_MONTH) {
            return IN_VAIN;
        }
        tellFraction(power(10 - p, fewest), power(10, fewest));
        return 0;
    }

    // ---- grain

    public int feeds(int court) {
        if (!realm.isCourt(court)) {
            return NONE;
        }
        trial.copyFrom(now);
        int month = realm.firstDeath(trial, court);
        if (month > LAST_MONTH) {
            return IN_VAIN;
        }
        told.tellTwo(firstOf(trial.dead & ~now.dead), trial.grain[court]);
        return month;
    }

    public int starves(int court, int other) {
        if (!realm.areTwoCourts(court, other)) {
            return NONE;
        }
        int best = IN_VAIN;
        int soonest = LAST_MONTH + 1;
        for (int g = 0; g < realm.giftCount; g++) {
            if (now.holder[g] == court && realm.isEater(now, g)) {
                trial.copyFrom(now);
                trial.holder[g] = other;
                int month = realm.firstDeath(trial, other);
                if (month < soonest) {
                    soonest = month;
                    best = g;
                }
            }
        }
        if (best >= 0) {
            told.tellOne(soonest);
        }
        return best;
    }

    // ---- debts

    public int net(int court) {
        if (!realm.isCourt(court)) {
            return NO_NET;
        }
        int claims = debts.owedTo(now, court);
        int owes = debts.owedBy(now, court);
        told.tellTwo(claims, owes);
        return claims - owes;
    }

    public int settle() {
        int open = debts.openNets(now);
        told.tellOne(open);
        return debts.fewestPayments(open);
    }

    public int ring() {
        int length = debts.shortestRing(now);
        if (length < 0) {
            return IN_VAIN;
        }
        told.clear();
        for (int i = 0; i < length && i < MOST_COURTS; i++) {
            told.tell(debts.chain[i]);
        }
        told.tell(debts.leastDue(now, length));
        return length;
    }

    // ---- esteem

    public int ranks() {
        int first = mostEsteemedBut(0);
        if (first < 0) {
            return IN_VAIN;
        }
        int placed = 0;
        told.clear();
        for (int place = 0; place < realm.courtCount; place++) {
            int next = mostEsteemedBut(placed);
            if (next >= 0) {
                placed |= 1 << next;
                told.tell(next);
            }
        }
        told.tell(realm.esteemFor(now, first));
        return first;
    }

    public int league() {
        int best = 0;
        for (int set = 1; set < 1 << realm.courtCount; set++) {
            if (Integer.bitCount(set) > Integer.bitCount(best) && isLeague(set)) {
                best = set;
            }
        }
        told.tellOne(best);
        return Integer.bitCount(best);
    }

    // ---- which it was, laws

    public int heard(int what, int v) {
        return clues.hear(what, v) ? clues.size : NONE;
    }

    public int forget() {
        int former = clues.size;
        clues.size = 0;
        return former;
    }

    public int fits() {
        int fitting = clues.fitting(now);
        int worth = 0;
        for (int g = 0; g < realm.giftCount; g++) {
            if ((fitting >> g & 1) != 0) {
                worth += realm.worth[g];
            }
        }
        told.tellTwo(Integer.bitCount(fitting), worth);
        return fitting;
    }

    public int ask() {
        int fitting = clues.fitting(now);
        if (fitting == 0) {
            return IN_VAIN;
        }
        int best = IN_VAIN;
        int fewest = MOST_GIFTS + 1;
        for (int c = 0; c < realm.courtCount; c++) {
            int yes = Integer.bitCount(fitting & realm.formerlyOf(now, c));
            int left = Math.max(yes, Integer.bitCount(fitting) - yes);
            if (left < fewest) {
                fewest = left;
                best = c;
            }
        }
        if (best >= 0) {
            told.tellOne(fewest);
        }
        return best;
    }

    public int law() {
        int fault = draft.read();
        text.length = 0;
        if (fault >= 0) {
            return LAW_FAULT - fault;
        }
        int byDraft = worthAtHome(draft);
        int byRuling = worthAtHome(ruling);
        told.tellTwo(byDraft, byRuling);
        return byDraft - byRuling;
    }

    // ---- rests, years

    public int rests(int v) {
        if (v < 0 || v > MOST_PRIZE) {
            return NONE;
        }
        int found = 0;
        told.clear();
        for (int x = 0; x <= MOST_SENT; x++) {
            for (int y = 0; y <= MOST_SENT; y++) {
                if (isBestReply(x, y, v) && isBestReply(y, x, v)) {
                    if (found == 0) {
                        told.tellTwo(x, y);
                    }
                    found++;
                }
            }
        }
        return found;
    }

    public int years(int seed, int n) {
        if (n < 1 || n > MOST_DRAWN) {
            return NONE;
        }
        trial.copyFrom(now);
        int drawn = seed;
        int sent = 0;
        for (int i = 0; i < n; i++) {
            drawn = nextDraw(drawn);
            if (drawOf(drawn, 3) == 0) {
                realm.passMonth(trial);
            } else if (realm.giftCount > 0) {
                drawn = nextDraw(drawn);
                int gift = drawOf(drawn, realm.giftCount);
                drawn = nextDraw(drawn);
                int court = drawOf(drawn, realm.courtCount);
                sent += tryDelivery(gift, court) ? 1 : 0;
            }
        }
        told.tellTwo(Integer.bitCount(trial.dead), realm.allEsteem(trial));
        return sent;
    }

    // ---- kept

    public boolean keep(int i) {
        if (i < 0 || i >= MOST_KEPT) {
            return false;
        }
        kept[i].copyFrom(now);
        keptThere |= 1 << i;
        return true;
    }

    public boolean again(int i) {
        if (i < 0 || i >= MOST_KEPT || (keptThere >> i & 1) == 0) {
            return false;
        }
        now.copyFrom(kept[i]);
        past.clear();
        return true;
    }

    public int count(int what) {
        switch (what) {
            case 0:
                return realm.courtCount;
            case 1:
                return realm.giftCount;
            case 2:
                return now.month;
            case 3:
                return realm.allGrain(now);
            case 4:
                return now.dead;
            case 5:
                return realm.alliedPairs(now);
            case 6:
                return realm.warringPairs(now);
            case 7:
                return debts.allDues(now);
            case 8:
                return realm.roadsThere();
            case 9:
                return clues.size;
            case 10:
                return past.size;
            case 11:
                return told.size;
            case 12:
                return text.length;
            default:
                return NO_COUNT;
        }
    }

    public long row(int i) throws NoSuchElementException {
        if (i < 0 || i >= told.size) {
            throw new NoSuchElementException();
        }
        return told.numbers[i];
    }

    // ---- reading THE TEXT

    /** How many lines, or -1 - p. Ranks and tastes go behind those that count, so a fault leaves nothing. */
    private int readCourts() {
        if (text.length == 0) {
            return 0;
        }
        int p = 0;
        for (int line = 0; line < MOST_COURTS; line++) {
            int court = realm.courtCount + line;
            if (court >= MOST_COURTS) {
                return -1 - p;
            }
            for (int i = 0; i < COURT_DIGITS; i++) {
                int digit = text.digitAt(p, COURT_SIGNS);
                if (digit < 0 || i == 0 && digit == 0) {
                    return -1 - p;
                }
                realm.noteCourt(court, i, digit);
                p++;
            }
            if (p == text.length) {
                return line + 1;
            }
            if (text.signAt(p, COURT_SIGNS) != ';') {
                return -1 - p;
            }
            p++;
        }
        return -1 - p;
    }

    /** How many lines, or -1 - p. Gifts go behind those that count, so a fault leaves nothing. */
    private int readGifts() {
        if (text.length == 0) {
            return 0;
        }
        int p = 0;
        for (int line = 0; line < MOST_GIFTS; line++) {
            int gift = realm.giftCount + line;
            if (gift >= MOST_GIFTS) {
                return -1 - p;
            }
            p = readGift(gift, p);
            if (p < 0) {
                return p;
            }
            if (p == text.length) {
                return line + 1;
            }
            if (text.signAt(p, GIFT_SIGNS) != ';') {
                return -1 - p;
            }
            p++;
        }
        return -1 - p;
    }

    /** Where the line that begins at start ends, or -1 - p. */
    private int readGift(int gift, int start) {
        int kind = text.digitAt(start, GIFT_SIGNS);
        if (kind < 0 || kind >= KINDS) {
            return -1 - start;
        }
        int p = start + 1;
        int worth = text.digitAt(p, GIFT_SIGNS);
        if (worth < 0) {
            return -1 - p;
        }
        int second = text.digitAt(p + 1, GIFT_SIGNS);
        if (second >= 0) {
            worth = 10 * worth + second;
            p++;
        }
        if (worth == 0) {
            return -1 - p;
        }
        p++;
        if (text.signAt(p, GIFT_SIGNS) != ',') {
            return -1 - p;
        }
        p++;
        int eats = text.digitAt(p, GIFT_SIGNS);
        if (eats < 0) {
            return -1 - p;
        }
        p++;
        int court = text.digitAt(p, GIFT_SIGNS);
        if (!realm.isCourt(court)) {
            return -1 - p;
        }
        realm.noteGift(gift, kind, worth, eats);
        now.holder[gift] = court;
        now.had[gift] = 1 << court;
        return p + 1;
    }

    private void settleIn(int court) {
        now.grain[court] = FIRST_GRAIN;
        for (int other = 0; other < court; other++) {
            now.esteem[pairOf(court, other)] = FIRST_ESTEEM;
            now.esteem[pairOf(other, court)] = FIRST_ESTEEM;
        }
    }

    /** States of fewer courts or gifts can't be gone back to. */
    private void forgetStates() {
        past.clear();
        keptThere = 0;
    }

    /** Where the first sign stands that can't stand there, or NONE. */
    private int yearFault() {
        int p = 0;
        for (int act = 0; act < YEAR_SIGNS && p != text.length; act++) {
            int signs = actSigns(text.signAt(p, YEAR_SIGNS));
            if (signs == 0) {
                return p;
            }
            for (int i = 1; i < signs; i++) {
                int digit = text.digitAt(p + i, YEAR_SIGNS);
                if (digit < 0 || i == 3 && digit == 0) {
                    return p + i;
                }
            }
            p += signs;
        }
        return NONE;
    }

    /** How many signs an act has that begins with a sign; 0 if none does. */
    private static int actSigns(int sign) {
        switch (sign) {
            case 'm':
                return 2;
            case 's':
            case 'f':
                return 3;
            case 'p':
            case 'q':
                return 4;
            default:
                return 0;
        }
    }

    // ---- acts

    private int sendRefusal(int gift, int court) {
        if (!realm.isGift(gift) || !realm.isCourt(court)) {
            return NONE;
        }
        return now.holder[gift] == court ? IN_VAIN : 0;
    }

    private boolean isEnvoyRefused(int court, int other, int n) {
        return !realm.areTwoCourts(court, other) || n < -9 || n > 9 || n == 0;
    }

    private void hearEnvoy(int court, int other, int n) {
        int pair = pairOf(court, other);
        now.esteem[pair] = clamped(now.esteem[pair] + n, MOST_ESTEEM);
    }

    private int forgiveRefusal(int court, int other) {
        if (!realm.areTwoCourts(court, other)) {
            return NONE;
        }
        return now.due[pairOf(court, other)] == 0 ? IN_VAIN : 0;
    }

    private void passMonths(int n) {
        for (int i = 0; i < n; i++) {
            realm.passMonth(now);
        }
    }

    /** The act of A YEAR that begins at p is done: false if it is refused. */
    private boolean doAct(int p) {
        int one = text.digitAt(p + 1, YEAR_SIGNS);
        int two = text.digitAt(p + 2, YEAR_SIGNS);
        int three = text.digitAt(p + 3, YEAR_SIGNS);
        switch (text.signAt(p, YEAR_SIGNS)) {
            case 's':
                return actSend(one, two);
            case 'm':
                passMonths(one);
                return true;
            case 'f':
                return actForgive(one, two);
            case 'p':
                return actEnvoy(one, two, three);
            case 'q':
                return actEnvoy(one, two, -three);
            default:
                return false;
        }
    }

    private boolean actSend(int gift, int court) {
        if (sendRefusal(gift, court) < 0) {
            return false;
        }
        realm.deliver(now, gift, court, realm.valueFor(ruling, now, gift, court));
        return true;
    }

    private boolean actForgive(int court, int other) {
        if (forgiveRefusal(court, other) < 0) {
            return false;
        }
        now.due[pairOf(court, other)] = 0;
        return true;
    }

    private boolean actEnvoy(int court, int other, int n) {
        if (isEnvoyRefused(court, other, n)) {
            return false;
        }
        hearEnvoy(court, other, n);
        return true;
    }

    private boolean tryDelivery(int gift, int court) {
        if (trial.holder[gift] == court) {
            return false;
        }
        realm.deliver(trial, gift, court, realm.valueFor(ruling, trial, gift, court));
        return true;
    }

    // ---- parts of questions

    /** What the courts that have two gifts gain together by a swap; 0 if not both gain. */
    private int swapGain(int g, int h) {
        int one = now.holder[g];
        int other = now.holder[h];
        if (one == other) {
            return 0;
        }
        int oneGains = realm.valueFor(ruling, now, h, one) - realm.valueFor(ruling, now, g, one);
        int otherGains = realm.valueFor(ruling, now, g, other) - realm.valueFor(ruling, now, h, other);
        return oneGains > 0 && otherGains > 0 ? oneGains + otherGains : 0;
    }

    /** The first of the courts that all others together think the most of, without those placed; or NONE. */
    private int mostEsteemedBut(int placed) {
        int best = NONE;
        int most = NONE;
        for (int c = 0; c < realm.courtCount; c++) {
            int esteem = realm.esteemFor(now, c);
            if ((placed >> c & 1) == 0 && esteem > most) {
                most = esteem;
                best = c;
            }
        }
        return best;
    }

    private boolean isLeague(int set) {
        for (int c = 0; c < realm.courtCount; c++) {
            int others = set & ~(1 << c);
            if ((set >> c & 1) != 0 && (others & ~realm.alliesOf(now, c)) != 0) {
                return false;
            }
        }
        return true;
    }

    private int worthAtHome(Rule rule) {
        int sum = 0;
        for (int g = 0; g < realm.giftCount; g++) {
            sum += realm.valueFor(rule, now, g, now.holder[g]);
        }
        return sum;
    }

    private void tellFraction(long upper, long lower) {
        long divisor = greatestDivisor(upper, lower);
        if (divisor > 0) {
            told.tellTwo(upper / divisor, lower / divisor);
        }
    }

    private static long greatestDivisor(long a, long b) {
        long one = a;
        long other = b;
        // Euclid's steps on longs are fewer than 100, as each two of them halve a number at least.
        for (int i = 0; i < 100 && other != 0; i++) {
            long left = one % other;
            one = other;
            other = left;
        }
        return one;
    }

    private static long power(int base, int times) {
        long product = 1;
        for (int i = 0; i < times; i++) {
            product *= base;
        }
        return product;
    }

    private static boolean isBestReply(int sent, int against, int prize) {
        for (int x = 0; x <= MOST_SENT; x++) {
            if (gainOf(x, against, prize) > gainOf(sent, against, prize)) {
                return false;
            }
        }
        return true;
    }

    private static int gainOf(int sent, int against, int prize) {
        int won = sent > against ? prize : sent == against ? prize / 2 : 0;
        int insult = sent > 2 * against ? 3 : 0;
        return won - sent - insult;
    }

    private static int nextDraw(int drawn) {
        return drawn * 1103515245 + 12345;
    }

    private static int drawOf(int drawn, int n) {
        return n > 0 ? (drawn >>> 16) % n : 0;
    }

    private static int sheetEntry(int kind, int entry) {
        switch (kind) {
            case 0:
                return (byte) entry;
            case 1:
                return (short) entry;
            default:
                return entry;
        }
    }

    private static int firstOf(int gifts) {
        for (int g = 0; g < MOST_GIFTS; g++) {
            if ((gifts >> g & 1) != 0) {
                return g;
            }
        }
        return NONE;
    }

    private static int clamped(int number, int most) {
        return Math.max(0, Math.min(most, number));
    }

    private static int pairOf(int one, int other) {
        return one * MOST_COURTS + other;
    }

    /** THE TEXT. */
    private static final class Text {
        final char[] signs = new char[MOST_SIGNS];
        int length;

        boolean addFour(int v) {
            if (length + 4 > MOST_SIGNS) {
                return false;
            }
            for (int shift = 24; shift >= 0; shift -= 8) {
                signs[length] = (char) (v >>> shift & 255);
                length++;
            }
            return true;
        }

        /** What stands behind a limit can't stand there, whatever it is: it reads as no sign. */
        int signAt(int p, int limit) {
            return p >= 0 && p < length && p < limit ? signs[p] : NO_SIGN;
        }

        int digitAt(int p, int limit) {
            int sign = signAt(p, limit);
            return sign >= '0' && sign <= '9' ? sign - '0' : NO_SIGN;
        }
    }

    /** The ROW. */
    private static final class Row {
        final long[] numbers = new long[MOST_ROW];
        int size;

        void clear() {
            size = 0;
        }

        void tell(long number) {
            if (size < MOST_ROW) {
                numbers[size] = number;
                size++;
            }
        }

        void tellOne(long number) {
            clear();
            tell(number);
        }

        void tellTwo(long one, long other) {
            clear();
            tell(one);
            tell(other);
        }
    }

    /** All that undo() and again() bring back. */
    private static final class State {
        final int[] grain = new int[MOST_COURTS];
        final int[] esteem = new int[MOST_COURTS * MOST_COURTS];
        final int[] due = new int[MOST_COURTS * MOST_COURTS];
        final int[] holder = new int[MOST_GIFTS];
        final int[] had = new int[MOST_GIFTS];
        int dead;
        int month;

        void copyFrom(State other) {
            System.arraycopy(other.grain, 0, grain, 0, MOST_COURTS);
            System.arraycopy(other.esteem, 0, esteem, 0, MOST_COURTS * MOST_COURTS);
            System.arraycopy(other.due, 0, due, 0, MOST_COURTS * MOST_COURTS);
            System.arraycopy(other.holder, 0, holder, 0, MOST_GIFTS);
            System.arraycopy(other.had, 0, had, 0, MOST_GIFTS);
            dead = other.dead;
            month = other.month;
        }

        boolean isDead(int gift) {
            return (dead >> gift & 1) != 0;
        }

        boolean hadIt(int gift, int court) {
            return (had[gift] >> court & 1) != 0;
        }

        /** Only a gift that is neither known again nor dead pays or makes a due. */
        boolean isWelcome(int gift, int court) {
            return !hadIt(gift, court) && !isDead(gift);
        }

        /** How much more a court thinks of the sender by a gift, if the sender owes it so much. */
        int esteemGained(int gift, int court, int owed, int value) {
            if (hadIt(gift, court)) {
                return -6;
            }
            if (isDead(gift)) {
                return -4;
            }
            if (owed <= 0) {
                return 2;
            }
            if (2 * value < owed) {
                return -5;
            }
            return value > 2 * owed ? -2 : 4;
        }
    }

    /** The latest states: one more slot than can be undone, so that a marked one may come to nothing. */
    private static final class Past {
        final State[] states = new State[MOST_PAST + 1];
        int first;
        int size;

        Past() {
            for (int i = 0; i <= MOST_PAST; i++) {
                states[i] = new State();
            }
        }

        void mark(State state) {
            states[slotOf(size)].copyFrom(state);
        }

        void commit() {
            if (size < MOST_PAST) {
                size++;
            } else {
                first = slotOf(1);
            }
        }

        void remember(State state) {
            mark(state);
            commit();
        }

        boolean restore(State state) {
            if (size == 0) {
                return false;
            }
            size--;
            state.copyFrom(states[slotOf(size)]);
            return true;
        }

        void clear() {
            size = 0;
        }

        private int slotOf(int i) {
            return (first + i) % (MOST_PAST + 1);
        }
    }

    /** What courts, gifts and roads are, and what becomes of a state by them. */
    private static final class Realm {
        int courtCount;
        int giftCount;
        final int[] rank = new int[MOST_COURTS];
        final int[] taste = new int[MOST_COURTS * KINDS];
        final int[] road = new int[MOST_COURTS * MOST_COURTS];
        final int[] kind = new int[MOST_GIFTS];
        final int[] worth = new int[MOST_GIFTS];
        final int[] eats = new int[MOST_GIFTS];
        final int[] inputs = new int[Rule.LETTERS];

        boolean isCourt(int court) {
            return court >= 0 && court < courtCount;
        }

        boolean areTwoCourts(int one, int other) {
            return isCourt(one) && isCourt(other) && one != other;
        }

        boolean isGift(int gift) {
            return gift >= 0 && gift < giftCount;
        }

        void noteCourt(int court, int i, int digit) {
            if (i == 0) {
                rank[court] = digit;
            } else {
                taste[court * KINDS + i - 1] = digit;
            }
        }

        void noteGift(int gift, int itsKind, int itsWorth, int itsEats) {
            kind[gift] = itsKind;
            worth[gift] = itsWorth;
            eats[gift] = itsEats;
        }

        int tasteOf(int court, int itsKind) {
            return taste[court * KINDS + itsKind];
        }

        int heldBy(State state, int court) {
            int bits = 0;
            for (int g = 0; g < giftCount; g++) {
                if (state.holder[g] == court) {
                    bits |= 1 << g;
                }
            }
            return bits;
        }

        int formerlyOf(State state, int court) {
            int bits = 0;
            for (int g = 0; g < giftCount; g++) {
                if (state.hadIt(g, court)) {
                    bits |= 1 << g;
                }
            }
            return bits;
        }

        int alliesOf(State state, int court) {
            int bits = 0;
            for (int c = 0; c < courtCount; c++) {
                boolean both = state.esteem[pairOf(court, c)] >= ALLIED_ESTEEM
                        && state.esteem[pairOf(c, court)] >= ALLIED_ESTEEM;
                if (c != court && both) {
                    bits |= 1 << c;
                }
            }
            return bits;
        }

        int foesOf(State state, int court) {
            int bits = 0;
            for (int c = 0; c < courtCount; c++) {
                boolean one = state.esteem[pairOf(court, c)] == 0 || state.esteem[pairOf(c, court)] == 0;
                if (c != court && one) {
                    bits |= 1 << c;
                }
            }
            return bits;
        }

        int alliedPairs(State state) {
            int twice = 0;
            for (int c = 0; c < courtCount; c++) {
                twice += Integer.bitCount(alliesOf(state, c));
            }
            return twice / 2;
        }

        int warringPairs(State state) {
            int twice = 0;
            for (int c = 0; c < courtCount; c++) {
                twice += Integer.bitCount(foesOf(state, c));
            }
            return twice / 2;
        }

        int roadsThere() {
            int there = 0;
            for (int one = 0; one < courtCount; one++) {
                for (int other = one + 1; other < courtCount; other++) {
                    if (road[pairOf(one, other)] > 0) {
                        there++;
                    }
                }
            }
            return there;
        }

        int allGrain(State state) {
            int sum = 0;
            for (int c = 0; c < courtCount; c++) {
                sum += state.grain[c];
            }
            return sum;
        }

        int esteemFor(State state, int court) {
            int sum = 0;
            for (int c = 0; c < courtCount; c++) {
                if (c != court) {
                    sum += state.esteem[pairOf(c, court)];
                }
            }
            return sum;
        }

        int allEsteem(State state) {
            int sum = 0;
            for (int c = 0; c < courtCount; c++) {
                sum += esteemFor(state, c);
            }
            return sum;
        }

        int valueFor(Rule rule, State state, int gift, int court) {
            inputs[0] = worth[gift];
            inputs[1] = tasteOf(court, kind[gift]);
            inputs[2] = rank[court];
            inputs[3] = rank[state.holder[gift]];
            inputs[4] = Integer.bitCount(state.had[gift]);
            inputs[5] = eats[gift];
            inputs[6] = state.isDead(gift) ? 1 : 0;
            return clamped(rule.evaluate(inputs), MOST_VALUE);
        }

        void deliver(State state, int gift, int court, int value) {
            int sender = state.holder[gift];
            int toSender = pairOf(court, sender);
            int toCourt = pairOf(sender, court);
            int gained = state.esteemGained(gift, court, state.due[toCourt], value);
            state.esteem[toSender] = clamped(state.esteem[toSender] + gained, MOST_ESTEEM);
            if (state.isWelcome(gift, court)) {
                if (state.due[toCourt] > 0) {
                    state.due[toCourt] = 0;
                } else {
                    state.due[toSender] = Math.min(MOST_DUE, state.due[toSender] + value);
                }
            }
            state.holder[gift] = court;
            state.had[gift] |= 1 << court;
        }

        boolean isEater(State state, int gift) {
            return (kind[gift] == BEAST || kind[gift] == BEAR) && !state.isDead(gift);
        }

        void passMonth(State state) {
            for (int c = 0; c < courtCount; c++) {
                passMonthAt(state, c);
            }
            state.month++;
        }

        /** A beast eats in its own court alone, so each court has its month without the others. */
        private void passMonthAt(State state, int court) {
            int grain = Math.min(MOST_GRAIN, state.grain[court] + 2 * rank[court]);
            for (int g = 0; g < giftCount; g++) {
                if (state.holder[g] == court && isEater(state, g)) {
                    if (grain < eats[g]) {
                        grain = 0;
                        state.dead |= 1 << g;
                    } else {
                        grain -= eats[g];
                    }
                }
            }
            state.grain[court] = grain;
        }

        /** In how many months a gift of a court first dies (behind LAST_MONTH: in none); the court goes so far. */
        int firstDeath(State state, int court) {
            int deadBefore = state.dead;
            for (int month = 1; month <= LAST_MONTH; month++) {
                passMonthAt(state, court);
                if (state.dead != deadBefore) {
                    return month;
                }
            }
            return LAST_MONTH + 1;
        }
    }

    /** A rule, read from a text into numbers, letters and operations, each behind what it needs. */
    private static final class Rule {
        static final int LETTERS = 7;
        private static final int NEGATE = '~';
        private static final int COMPARISON = 0;
        private static final int SIGNED = 3;

        // From 0 on a number itself; below 0 a sign, negated.
        private final int[] code = new int[RULE_SIGNS];
        private int size;
        private final int[] stack = new int[RULE_SIGNS];
        private int top;
        private final Text source;
        private int at;

        Rule(Text source) {
            this.source = source;
            beFirstRule();
        }

        /** Where the first sign stands that can't stand there, or NONE. */
        int read() {
            if (source.length == 0) {
                beFirstRule();
                return NONE;
            }
            at = 0;
            size = 0;
            boolean read = readLevel(COMPARISON, 0) && at == source.length;
            return read ? NONE : at;
        }

        private void beFirstRule() {
            size = 0;
            emit(-'w');
            emit(-'k');
            emit(-'*');
            emit(5);
            emit(-'/');
        }

        private void emit(int step) {
            if (size < RULE_SIGNS) {
                code[size] = step;
                size++;
            }
        }

        private int nextSign() {
            return source.signAt(at, RULE_SIGNS);
        }

        private boolean readLevel(int level, int parentheses) {
            if (level >= SIGNED) {
                return readSigned(parentheses);
            }
            if (!readLevel(level + 1, parentheses)) {
                return false;
            }
            int most = level == COMPARISON ? 1 : RULE_SIGNS;
            for (int i = 0; i < most && levelOf(nextSign()) == level; i++) {
                int sign = nextSign();
                at++;
                if (!readLevel(level + 1, parentheses)) {
                    return false;
                }
                emit(-sign);
            }
            return true;
        }

        private static int levelOf(int sign) {
            switch (sign) {
                case '<':
                case '>':
                case '=':
                    return COMPARISON;
                case '+':
                case '-':
                    return 1;
                case '*':
                case '/':
                    return 2;
                default:
                    return NONE;
            }
        }

        private boolean readSigned(int parentheses) {
            boolean negated = false;
            for (int i = 0; i < RULE_SIGNS && nextSign() == '-'; i++) {
                negated = !negated;
                at++;
            }
            if (!readThing(parentheses)) {
                return false;
            }
            if (negated) {
                emit(-NEGATE);
            }
            return true;
        }

        private boolean readThing(int parentheses) {
            int sign = nextSign();
            if (sign >= '0' && sign <= '9') {
                readNumber();
                return true;
            }
            if (letterOf(sign) >= 0) {
                emit(-sign);
                at++;
                return true;
            }
            if (sign != '(' || parentheses >= MOST_PARENTHESES) {
                return false;
            }
            at++;
            if (!readLevel(COMPARISON, parentheses + 1) || nextSign() != ')') {
                return false;
            }
            at++;
            return true;
        }

        private void readNumber() {
            int number = 0;
            int digit = source.digitAt(at, RULE_SIGNS);
            for (int i = 0; i < 3 && digit >= 0; i++) {
                number = 10 * number + digit;
                at++;
                digit = source.digitAt(at, RULE_SIGNS);
            }
            emit(number);
        }

        private static int letterOf(int sign) {
            switch (sign) {
                case 'w':
                    return 0;
                case 'k':
                    return 1;
                case 'r':
                    return 2;
                case 's':
                    return 3;
                case 'h':
                    return 4;
                case 'e':
                    return 5;
                case 'd':
                    return 6;
                default:
                    return NONE;
            }
        }

        int evaluate(int[] inputs) {
            top = 0;
            for (int i = 0; i < size; i++) {
                int letter = letterOf(-code[i]);
                if (code[i] >= 0) {
                    push(code[i]);
                } else if (letter >= 0 && letter < inputs.length) {
                    push(inputs[letter]);
                } else if (code[i] == -NEGATE) {
                    push(-pop());
                } else {
                    int right = pop();
                    int left = pop();
                    push(joined(-code[i], left, right));
                }
            }
            return pop();
        }

        private void push(int number) {
            if (top < RULE_SIGNS) {
                stack[top] = number;
                top++;
            }
        }

        private int pop() {
            if (top <= 0) {
                return 0;
            }
            top--;
            return stack[top];
        }

        private static int joined(int sign, int left, int right) {
            switch (sign) {
                case '<':
                    return left < right ? 1 : 0;
                case '>':
                    return left > right ? 1 : 0;
                case '=':
                    return left == right ? 1 : 0;
                case '+':
                    return left + right;
                case '-':
                    return left - right;
                case '*':
                    return left * right;
                default:
                    return right == 0 ? 0 : left / right;
            }
        }
    }

    /** Ways over the roads. */
    private static final class Roads {
        private static final int FAR = 1000;

        private final Realm realm;
        private final int[] left = new int[MOST_COURTS];
        private final int[] fed = new int[(LAST_MONTH + 1) * MOST_COURTS];

        Roads(Realm realm) {
            this.realm = realm;
        }

        /** The fewest months, or NONE; what is left from each court stays for tellWay. */
        int fewestMonths(int from, int to) {
            for (int c = 0; c < realm.courtCount; c++) {
                left[c] = c == to ? 0 : FAR;
            }
            for (int round = 1; round < realm.courtCount; round++) {
                for (int c = 0; c < realm.courtCount; c++) {
                    shorten(c);
                }
            }
            return left[from] < FAR ? left[from] : NONE;
        }

        private void shorten(int court) {
            for (int c = 0; c < realm.courtCount; c++) {
                int road = realm.road[pairOf(court, c)];
                if (road > 0) {
                    left[court] = Math.min(left[court], road + left[c]);
                }
            }
        }

        /** The least of the shortest ways, once fewestMonths has found that there is one. */
        void tellWay(int from, Row told) {
            told.clear();
            told.tell(from);
            int court = from;
            for (int i = 0; i < MOST_COURTS && left[court] > 0; i++) {
                court = firstNext(court);
                told.tell(court);
            }
        }

        private int firstNext(int court) {
            for (int c = 0; c < realm.courtCount; c++) {
                int road = realm.road[pairOf(court, c)];
                if (road > 0 && road + left[c] == left[court]) {
                    return c;
                }
            }
            return court;
        }

        /** More grain in the same court and month is never worse: the most is kept of each. */
        int fewestFedMonths(int from, int to, int eats, int taken) {
            for (int i = 0; i < fed.length; i++) {
                fed[i] = NONE;
            }
            fed[from] = taken;
            for (int month = 0; month <= LAST_MONTH; month++) {
                if (fed[month * MOST_COURTS + to] >= 0) {
                    return month;
                }
                for (int c = 0; c < realm.courtCount; c++) {
                    goOn(month, c, eats, taken);
                }
            }
            return IN_VAIN;
        }

        private void goOn(int month, int court, int eats, int taken) {
            int grain = fed[month * MOST_COURTS + court];
            if (grain < 0) {
                return;
            }
            for (int c = 0; c < realm.courtCount; c++) {
                int road = realm.road[pairOf(court, c)];
                if (road > 0 && month + road <= LAST_MONTH && grain >= eats * road) {
                    int i = (month + road) * MOST_COURTS + c;
                    fed[i] = Math.max(fed[i], grain - eats * road + taken);
                }
            }
        }
    }

    /** Dues, nets and rings of courts that owe. */
    private static final class Debts {
        final int[] chain = new int[MOST_COURTS];
        private final Realm realm;
        private final int[] nets = new int[MOST_COURTS];
        private final int[] groups = new int[1 << MOST_COURTS];

        Debts(Realm realm) {
            this.realm = realm;
        }

        int owedBy(State state, int court) {
            int sum = 0;
            for (int c = 0; c < realm.courtCount; c++) {
                sum += state.due[pairOf(court, c)];
            }
            return sum;
        }

        int owedTo(State state, int court) {
            int sum = 0;
            for (int c = 0; c < realm.courtCount; c++) {
                sum += state.due[pairOf(c, court)];
            }
            return sum;
        }

        int allDues(State state) {
            int sum = 0;
            for (int c = 0; c < realm.courtCount; c++) {
                sum += owedBy(state, c);
            }
            return sum;
        }

        /** How many nets are not 0; they stay, one behind the other, for fewestPayments. */
        int openNets(State state) {
            int open = 0;
            for (int c = 0; c < realm.courtCount; c++) {
                int difference = owedTo(state, c) - owedBy(state, c);
                if (difference != 0) {
                    nets[open] = difference;
                    open++;
                }
            }
            return open;
        }

        /** A group whose nets cancel out needs one payment less than it has courts: the most groups save the most. */
        int fewestPayments(int open) {
            groups[0] = 0;
            for (int set = 1; set < 1 << open && set < groups.length; set++) {
                int most = 0;
                int sum = 0;
                for (int i = 0; i < open; i++) {
                    if ((set >> i & 1) != 0) {
                        most = Math.max(most, groups[set & ~(1 << i)]);
                        sum += nets[i];
                    }
                }
                groups[set] = sum == 0 ? most + 1 : most;
            }
            return open - groups[(1 << open) - 1];
        }

        /** How long the shortest ring is, or NONE; it stays in the chain. */
        int shortestRing(State state) {
            for (int length = 2; length <= realm.courtCount; length++) {
                for (int first = 0; first < realm.courtCount; first++) {
                    chain[0] = first;
                    if (closes(state, length, 1, 1 << first)) {
                        return length;
                    }
                }
            }
            return NONE;
        }

        /** Whether the first courts of the chain can go on, the least ones first, to a ring of a length. */
        private boolean closes(State state, int length, int linked, int used) {
            if (linked < 1 || linked > MOST_COURTS) {
                return false;
            }
            int last = chain[linked - 1];
            if (linked >= length) {
                return state.due[pairOf(last, chain[0])] > 0;
            }
            for (int c = chain[0] + 1; c < realm.courtCount; c++) {
                if ((used >> c & 1) == 0 && state.due[pairOf(last, c)] > 0) {
                    chain[linked] = c;
                    if (closes(state, length, linked + 1, used | 1 << c)) {
                        return true;
                    }
                }
            }
            return false;
        }

        int leastDue(State state, int length) {
            int least = MOST_DUE;
            for (int i = 0; i < length && i < MOST_COURTS; i++) {
                int next = i + 1 < length && i + 1 < MOST_COURTS ? chain[i + 1] : chain[0];
                least = Math.min(least, state.due[pairOf(chain[i], next)]);
            }
            return least;
        }
    }

    /** The search for the fewest gifts by which a court is won. */
    private static final class Wooing {
        final int[] best = new int[MOST_WOOING];
        private final Realm realm;
        private final State state;
        private final int[] values = new int[MOST_GIFTS];
        private final int[] chosen = new int[MOST_WOOING];
        private int wooed;
        private int wanted;
        private int leastWorth;

        Wooing(Realm realm, State state) {
            this.realm = realm;
            this.state = state;
        }

        int fewestGifts(Rule rule, int court, int other) {
            wooed = other;
            int held = realm.heldBy(state, court);
            for (int g = 0; g < realm.giftCount; g++) {
                values[g] = realm.valueFor(rule, state, g, other);
            }
            for (int n = 0; n <= MOST_WOOING; n++) {
                wanted = n;
                leastWorth = NONE;
                goOn(0, held, state.esteem[pairOf(other, court)], state.due[pairOf(court, other)], 0);
                if (leastWorth >= 0) {
                    return n;
                }
            }
            return IN_VAIN;
        }

        /** Rows come from the least on, so of those with like worth the first one found stays. */
        private void goOn(int sent, int left, int esteem, int due, int worth) {
            if (sent >= wanted || sent >= MOST_WOOING) {
                boolean better = leastWorth < 0 || worth < leastWorth;
                if (esteem >= ALLIED_ESTEEM && better) {
                    leastWorth = worth;
                    System.arraycopy(chosen, 0, best, 0, MOST_WOOING);
                }
                return;
            }
            for (int g = 0; g < realm.giftCount; g++) {
                if ((left >> g & 1) != 0) {
                    chosen[sent] = g;
                    int after = clamped(esteem + state.esteemGained(g, wooed, due, values[g]), MOST_ESTEEM);
                    int dueAfter = state.isWelcome(g, wooed) ? 0 : due;
                    goOn(sent + 1, left & ~(1 << g), after, dueAfter, worth + realm.worth[g]);
                }
            }
        }
    }

    /** What was heard of a gift. */
    private static final class Clues {
        int size;
        private final Realm realm;
        private final int[] whats = new int[MOST_HEARD];
        private final int[] numbers = new int[MOST_HEARD];

        Clues(Realm realm) {
            this.realm = realm;
        }

        boolean hear(int what, int v) {
            if (size >= MOST_HEARD || !canBe(what, v)) {
                return false;
            }
            whats[size] = what;
            numbers[size] = v;
            size++;
            return true;
        }

        private static boolean canBe(int what, int v) {
            switch (what) {
                case 0:
                    return v >= 0 && v < KINDS;
                case 1:
                    return v >= 1 && v <= 99;
                case 2:
                    return v >= 0 && v < MOST_COURTS;
                case 3:
                    return v == 0 || v == 1;
                default:
                    return false;
            }
        }

        int fitting(State state) {
            int bits = 0;
            for (int g = 0; g < realm.giftCount; g++) {
                if (fitsAll(state, g)) {
                    bits |= 1 << g;
                }
            }
            return bits;
        }

        private boolean fitsAll(State state, int gift) {
            for (int i = 0; i < size; i++) {
                if (!fitsOne(state, gift, whats[i], numbers[i])) {
                    return false;
                }
            }
            return true;
        }

        private boolean fitsOne(State state, int gift, int what, int v) {
            switch (what) {
                case 0:
                    return realm.kind[gift] == v;
                case 1:
                    return realm.worth[gift] >= v;
                case 2:
                    return state.hadIt(gift, v);
                default:
                    return state.isDead(gift) == (v == 1);
            }
        }
    }
}
