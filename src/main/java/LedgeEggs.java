import java.util.NoSuchElementException;

/** Men who are let down a cliff for eggs; ../shared/DOC.md has every promise by its number. */
public final class LedgeEggs {
    public static final int NONE = -1;

    private static final int MOST_BYTES = 400;
    private static final int FED_BYTES = 20;
    private static final int MOST_TEXTS = 12;
    private static final int ISLE_LINES = 14;
    private static final int LAW_LINES = 12;
    private static final int MOST_LEDGES = 10;
    private static final int MOST_HOLDERS = 6;
    private static final int MOST_CLIMBERS = 4;
    private static final int MOST_FATHOM = 40;
    private static final int MOST_EGGS = 20;
    private static final int MOST_AGE = 99;
    private static final int FRESH_AGE = 3;
    private static final int MOST_FRAY = 999;
    private static final int MOST_TIRED = 9;
    private static final int MOST_WIND = 9;
    private static final int MOST_KICKS = 12;
    private static final int MOST_DAY = 9999;
    private static final int MOST_AHEAD = 40;
    private static final int MOST_DAYS = 60;
    private static final int MOST_HARVEST = 10;
    private static final int MOST_COUNTED = 99;
    private static final int MOST_SIGNS = 12;
    private static final int MOST_MISHEARD = 5;
    private static final int MOST_UNDONE = 12;
    private static final int MOST_SEED = 6;
    private static final int RECOVERY = 5;

    private final Tape tape = new Tape();
    private final Law lines = new Law();
    private final Law draft = new Law();
    private final Law keptLines = new Law();
    private final Cliff now = new Cliff();
    private final Cliff aside = new Cliff();
    private final Cliff kept = new Cliff();
    private final IsleText isleText = new IsleText(tape, aside);
    private final LawText lawText = new LawText(tape, draft);
    private final Rules rules = new Rules(lines);
    private final Plan plan = new Plan(rules, aside);
    private final Past past = new Past();
    private final int[] crews = new int[1 << MOST_HOLDERS];
    private boolean imaged;

    public LedgeEggs() {
    }

    // ---- texts

    public int feed(int a, int b, int c, int d, int e) {
        if (tape.size() + FED_BYTES > MOST_BYTES) {
            return NONE;
        }
        tape.append(a);
        tape.append(b);
        tape.append(c);
        tape.append(d);
        tape.append(e);
        return tape.size();
    }

    public boolean end(int n) {
        if (n < 0 || n > tape.size()) {
            return false;
        }
        tape.cut(n);
        return true;
    }

    public int isle() throws IllegalArgumentException, UnsupportedOperationException {
        aside.copy(now);
        boolean right = isleText.readLines(ISLE_LINES);
        tape.cut(0);
        if (!right) {
            throw new IllegalArgumentException("the text is wrong");
        }
        if (now.at(Cliff.TEXTS) >= MOST_TEXTS) {
            throw new UnsupportedOperationException("there are 12 texts");
        }
        aside.add(Cliff.TEXTS, 1);
        now.copy(aside);
        past.forget();
        return now.at(Cliff.TEXTS);
    }

    public int law() throws IllegalArgumentException {
        draft.begin();
        boolean right = lawText.readLines(LAW_LINES);
        tape.cut(0);
        if (!right) {
            throw new IllegalArgumentException("the text is wrong");
        }
        lines.copy(draft);
        past.forget();
        return lines.size();
    }

    public int fault() {
        return tape.firstWrong();
    }

    // ---- what there is

    public int ledge(int ledge, int what) throws IndexOutOfBoundsException, NoSuchElementException {
        needLedge(ledge);
        if (what < 0 || what > 7) {
            throw new NoSuchElementException("no such what");
        }
        if (what == 5) {
            return rules.laysAt(now, ledge);
        }
        if (what == 6) {
            return windsTo(ledge);
        }
        return what == 7 ? nextTo(ledge) : now.ofLedge(ledge, what);
    }

    public int holder(int holder, boolean tired) throws IndexOutOfBoundsException {
        needHolder(holder);
        return now.ofHolder(holder, tired ? Cliff.TIRED : Cliff.STRENGTH);
    }

    public int climber(int climber, int what) throws IndexOutOfBoundsException, NoSuchElementException {
        needClimber(climber);
        if (what < 0 || what > 2) {
            throw new NoSuchElementException("no such what");
        }
        return what == 2 ? reachOf(climber) : now.ofClimber(climber, what);
    }

    public int kicks(int ledge, int wind) throws IndexOutOfBoundsException, IllegalArgumentException {
        needLedge(ledge);
        needWithin(wind, 0, MOST_WIND);
        return rules.kicksTo(now, ledge, wind);
    }

    public int swing(int ledge, int kick, int wind) throws IndexOutOfBoundsException, IllegalArgumentException {
        needLedge(ledge);
        needWithin(kick, 1, MOST_KICKS);
        needWithin(wind, 0, MOST_WIND);
        return rules.swingOf(now, ledge, kick, wind);
    }

    public int load(int climber, int ledge) throws IndexOutOfBoundsException {
        needClimber(climber);
        needLedge(ledge);
        return rules.loadOf(now, climber, ledge);
    }

    public boolean held(int climber, int ledge, int holders) throws IndexOutOfBoundsException {
        needClimber(climber);
        needLedge(ledge);
        return rules.strengthOf(now, holders) >= rules.loadOf(now, climber, ledge);
    }

    // ---- acts

    public int let(int climber, int ledge, int n)
            throws IndexOutOfBoundsException, IllegalArgumentException, IllegalStateException {
        needClimber(climber);
        needLedge(ledge);
        needWithin(n, 0, MOST_EGGS);
        if (!rules.canLet(now, climber, ledge)) {
            throw new IllegalStateException("one cannot be let down");
        }
        past.remember(now);
        return rules.letDown(now, climber, ledge, n);
    }

    public int clear(int ledge) throws IndexOutOfBoundsException {
        needLedge(ledge);
        past.remember(now);
        int gone = now.ofLedge(ledge, Cliff.EGGS);
        now.putLedge(ledge, Cliff.EGGS, 0);
        now.putLedge(ledge, Cliff.AGE, 0);
        now.putLedge(ledge, Cliff.BIRDS, Math.max(0, now.ofLedge(ledge, Cliff.BIRDS) - 1));
        return gone;
    }

    public int turn() {
        past.remember(now);
        now.put(Cliff.FRAY, now.at(Cliff.FRAY) / 2);
        return now.at(Cliff.FRAY);
    }

    public int rest(int holder) throws IndexOutOfBoundsException {
        needHolder(holder);
        past.remember(now);
        int tired = now.ofHolder(holder, Cliff.TIRED);
        now.putHolder(holder, Cliff.TIRED, 0);
        return tired;
    }

    public int days(int n) throws IllegalArgumentException {
        needWithin(n, 1, MOST_DAYS);
        past.remember(now);
        int laid = 0;
        for (int day = 0; day < n; day++) {
            laid += rules.dayMore(now);
        }
        return laid;
    }

    // ---- what will be on the ledges

    public int ahead(int ledge, int n, boolean age) throws IndexOutOfBoundsException, IllegalArgumentException {
        needLedge(ledge);
        needWithin(n, 0, MOST_AHEAD);
        aside.copy(now);
        for (int day = 0; day < n; day++) {
            rules.stillDayOf(aside, ledge);
        }
        return aside.ofLedge(ledge, age ? Cliff.AGE : Cliff.EGGS);
    }

    public int fresh() {
        int set = 0;
        for (int ledge = 0; ledge < now.at(Cliff.LEDGES); ledge++) {
            if (now.isFresh(ledge)) {
                set |= 1 << ledge;
            }
        }
        return set;
    }

    public int when(int ledge, int eggs) throws IndexOutOfBoundsException, IllegalArgumentException {
        needLedge(ledge);
        needWithin(eggs, 1, MOST_EGGS);
        aside.copy(now);
        for (int day = 0; day <= MOST_AHEAD; day++) {
            if (aside.isFresh(ledge) && aside.ofLedge(ledge, Cliff.EGGS) >= eggs) {
                return day;
            }
            rules.stillDayOf(aside, ledge);
        }
        return NONE;
    }

    public int late(int ledge) throws IndexOutOfBoundsException {
        needLedge(ledge);
        aside.copy(now);
        for (int day = 0; day <= MOST_AHEAD; day++) {
            if (aside.ofLedge(ledge, Cliff.EGGS) > 0 && !aside.isFresh(ledge)) {
                return day;
            }
            rules.stillDayOf(aside, ledge);
        }
        return NONE;
    }

    public int harvest(int n, int k) throws IllegalArgumentException {
        needWithin(n, 1, MOST_HARVEST);
        plan.weigh(now, n);
        plan.search();
        return k == NONE ? plan.most() : plan.ledgeOf(k);
    }

    public int loss(int n) throws IllegalArgumentException {
        needWithin(n, 1, MOST_HARVEST);
        plan.weigh(now, n);
        plan.search();
        return plan.most() - plan.greedy();
    }

    public int leave(int n) throws IllegalArgumentException {
        needWithin(n, 0, 90);
        int best = NONE;
        int fewest = 0;
        for (int set = 0; set < ledgeSets(); set++) {
            int eggs = sumOf(set, Cliff.EGGS);
            if (sumOf(set, Cliff.BIRDS) >= n && (best == NONE || eggs < fewest)) {
                best = set;
                fewest = eggs;
            }
        }
        return best;
    }

    public int trial(int n, boolean wind) throws IllegalArgumentException {
        needWithin(n, 0, MOST_AHEAD);
        aside.copy(now);
        for (int day = 0; day < n; day++) {
            rules.dayMore(aside);
        }
        return wind ? aside.at(Cliff.WIND) : aside.totalOf(Cliff.EGGS);
    }

    public int span(int n, boolean most) throws IllegalArgumentException {
        needWithin(n, 0, MOST_AHEAD);
        int best = freshBehind(n, 1);
        for (int seed = 2; seed <= MOST_SEED; seed++) {
            int eggs = freshBehind(n, seed);
            best = most ? Math.max(best, eggs) : Math.min(best, eggs);
        }
        return best;
    }

    // ---- the rope, the holders, the climbers

    public int lasts(int ledge, int wind) throws IndexOutOfBoundsException, IllegalArgumentException {
        needLedge(ledge);
        needWithin(wind, 0, MOST_WIND);
        int kicks = rules.kicksTo(now, ledge, wind);
        if (kicks == NONE) {
            return NONE;
        }
        int each = kicks + rules.wearAt(now, ledge, wind);
        int fray = now.at(Cliff.FRAY);
        int lettings = 0;
        while (lettings < MOST_COUNTED && fray < now.at(Cliff.BEARS)) {
            fray += each;
            lettings++;
        }
        return lettings;
    }

    public int enough(int climber, int ledge) throws IndexOutOfBoundsException {
        needClimber(climber);
        needLedge(ledge);
        int load = rules.loadOf(now, climber, ledge);
        int best = NONE;
        for (int set = 0; set < holderSets(); set++) {
            boolean fewer = best == NONE || Integer.bitCount(set) < Integer.bitCount(best);
            if (fewer && rules.strengthOf(now, set) >= load) {
                best = set;
            }
        }
        return best;
    }

    public int shifts(int climber, int ledge) throws IndexOutOfBoundsException {
        needClimber(climber);
        needLedge(ledge);
        int load = rules.loadOf(now, climber, ledge);
        int sets = Math.min(holderSets(), crews.length);
        int most = 0;
        for (int set = 0; set < sets; set++) {
            most = mostCrews(set, load);
            crews[set] = most;
        }
        return most;
    }

    public int who() {
        int best = NONE;
        int most = 0;
        for (int climber = 0; climber < now.at(Cliff.CLIMBERS); climber++) {
            int reached = Integer.bitCount(reachOf(climber));
            if (best == NONE || reached > most || reached == most && isLighter(climber, best)) {
                best = climber;
                most = reached;
            }
        }
        return best;
    }

    public int farthest(int ledge, int kicks, int wind) throws IndexOutOfBoundsException, IllegalArgumentException {
        needLedge(ledge);
        needWithin(kicks, 0, MOST_KICKS);
        needWithin(wind, 0, MOST_WIND);
        int far = 0;
        for (int kick = 1; kick <= kicks; kick++) {
            far += rules.swingOf(now, ledge, kick, wind);
        }
        return far;
    }

    public int calm(int ledge) throws IndexOutOfBoundsException {
        needLedge(ledge);
        int best = NONE;
        int fewest = MOST_KICKS + 1;
        for (int wind = 0; wind <= MOST_WIND; wind++) {
            int kicks = rules.kicksTo(now, ledge, wind);
            if (kicks != NONE && kicks < fewest) {
                best = wind;
                fewest = kicks;
            }
        }
        return best;
    }

    public int trips(int climber, int ledge) throws IndexOutOfBoundsException {
        needClimber(climber);
        needLedge(ledge);
        aside.copy(now);
        int trips = 0;
        while (trips < MOST_COUNTED && rules.canLet(aside, climber, ledge)) {
            rules.letDown(aside, climber, ledge, 0);
            trips++;
        }
        return trips;
    }

    public int recovers(int climber, int ledge) throws IndexOutOfBoundsException {
        needClimber(climber);
        needLedge(ledge);
        aside.copy(now);
        for (int day = 0; day <= RECOVERY; day++) {
            if (rules.isHeldByAll(aside, climber, ledge)) {
                return day;
            }
            rules.easeHolders(aside);
        }
        return NONE;
    }

    public int lightest() {
        int best = NONE;
        for (int climber = 0; climber < now.at(Cliff.CLIMBERS); climber++) {
            if (best == NONE || isLighter(climber, best)) {
                best = climber;
            }
        }
        return best;
    }

    // ---- fathoms, signs, sets and shares

    public int pairs(int n) throws IllegalArgumentException {
        needWithin(n, 0, MOST_FATHOM - 1);
        int pairs = 0;
        for (int one = 0; one < now.at(Cliff.LEDGES); one++) {
            for (int other = 0; other < one; other++) {
                if (apart(one, other) <= n) {
                    pairs++;
                }
            }
        }
        return pairs;
    }

    public int jerks(int n, int e) throws IllegalArgumentException {
        needWithin(n, 1, MOST_SIGNS);
        needWithin(e, 0, MOST_MISHEARD);
        int signs = 0;
        for (int sign = 1; sign <= n; sign += 2 * e + 1) {
            signs++;
        }
        return signs;
    }

    public boolean safe(int signs, int e) throws IllegalArgumentException {
        needWithin(e, 0, MOST_MISHEARD);
        int before = NONE;
        for (int sign = 0; sign < MOST_SIGNS; sign++) {
            if (hasBit(signs, sign)) {
                if (before != NONE && sign - before <= 2 * e) {
                    return false;
                }
                before = sign;
            }
        }
        return true;
    }

    public int heard(int signs, int jerks, int e) throws IllegalArgumentException {
        needWithin(e, 0, MOST_MISHEARD);
        int set = 0;
        for (int sign = 0; sign < MOST_SIGNS; sign++) {
            // as long: a number heard near the ends of int must not go round
            long off = (long) jerks - (sign + 1);
            if (hasBit(signs, sign) && off <= e && -off <= e) {
                set |= 1 << sign;
            }
        }
        return set;
    }

    public int round(int ledges) {
        int deepest = 0;
        for (int ledge = 0; ledge < now.at(Cliff.LEDGES); ledge++) {
            if (hasBit(ledges, ledge)) {
                deepest = Math.max(deepest, now.ofLedge(ledge, Cliff.FATHOM));
            }
        }
        return deepest > now.at(Cliff.LENGTH) ? NONE : 2 * deepest;
    }

    public int split(boolean part) {
        int all = now.totalOf(Cliff.EGGS);
        int best = 0;
        int least = all;
        for (int set = 0; set < ledgeSets(); set++) {
            int apart = Math.abs(all - 2 * sumOf(set, Cliff.EGGS));
            if (apart < least) {
                best = set;
                least = apart;
            }
        }
        return part ? best : least;
    }

    public int share(int n, boolean rope) throws IllegalArgumentException {
        needWithin(n, 0, 9999);
        // the ROPE and the widow are there without a man on the cliff
        int shares = Math.max(0, now.at(Cliff.CLIMBERS) + now.at(Cliff.HOLDERS)) + 2;
        int one = n / shares;
        return rope ? n - one * (shares - 1) : one;
    }

    public int rests() {
        int take = now.totalOf(Cliff.EGGS);
        int leave = now.totalOf(Cliff.BIRDS);
        int set = 0;
        if (take >= leave) {
            set |= 1;
        }
        if (take >= 2 * leave && leave >= take) {
            set |= 2 | 4;
        }
        if (2 * leave >= take) {
            set |= 8;
        }
        return set;
    }

    public int how(int eggs, boolean sure) {
        int ways = 0;
        int inAll = ledgeSets() - 1;
        for (int set = 0; set < ledgeSets(); set++) {
            if (sumOf(set, Cliff.EGGS) == eggs) {
                ways++;
                inAll &= set;
            }
        }
        if (!sure) {
            return ways;
        }
        return ways == 0 ? 0 : inAll;
    }

    // ---- the log, the seed, what was

    public int led(int ledge, boolean eggs) throws IndexOutOfBoundsException {
        needLedge(ledge);
        return eggs ? now.loggedEggs(Cliff.LOG_LEDGE, ledge) : now.loggedRows(ledge);
    }

    public int lucky() {
        int best = NONE;
        int most = 0;
        for (int climber = 0; climber < now.at(Cliff.CLIMBERS); climber++) {
            int eggs = now.loggedEggs(Cliff.LOG_CLIMBER, climber);
            if (eggs > most) {
                best = climber;
                most = eggs;
            }
        }
        return best;
    }

    public int log(int ago, int what) throws NoSuchElementException {
        if (what < 0 || what > 5) {
            throw new NoSuchElementException("no such what");
        }
        return ago < 0 || ago >= now.at(Cliff.ROWS) ? NONE : now.ofRow(ago, what);
    }

    public int seed(int n) {
        int was = now.at(Cliff.SEED);
        now.put(Cliff.SEED, n);
        return was;
    }

    public boolean undo() {
        return past.undoInto(now);
    }

    public void image() {
        kept.copy(now);
        keptLines.copy(lines);
        imaged = true;
    }

    public boolean back() {
        if (!imaged) {
            return false;
        }
        now.copy(kept);
        lines.copy(keptLines);
        past.forget();
        return true;
    }

    public int count(int what) {
        switch (what) {
            case 0: return now.at(Cliff.LEDGES);
            case 1: return now.at(Cliff.HOLDERS);
            case 2: return now.at(Cliff.CLIMBERS);
            case 3: return now.at(Cliff.TEXTS);
            case 4: return lines.size();
            case 5: return now.at(Cliff.DAY);
            case 6: return now.at(Cliff.WIND);
            case 7: return now.at(Cliff.LENGTH);
            case 8: return now.at(Cliff.FRAY);
            case 9: return now.at(Cliff.BEARS);
            case 10: return now.at(Cliff.STORE);
            case 11: return now.at(Cliff.OLD);
            case 12: return now.at(Cliff.HURT);
            case 13: return now.totalOf(Cliff.EGGS);
            case 14: return now.totalOf(Cliff.BIRDS);
            case 15: return now.at(Cliff.ROWS);
            case 16: return past.size();
            default: return NONE;
        }
    }

    // ---- what several calls use

    private void needLedge(int ledge) {
        if (ledge < 0 || ledge >= now.at(Cliff.LEDGES)) {
            throw new IndexOutOfBoundsException("no such ledge");
        }
    }

    private void needHolder(int holder) {
        if (holder < 0 || holder >= now.at(Cliff.HOLDERS)) {
            throw new IndexOutOfBoundsException("no such holder");
        }
    }

    private void needClimber(int climber) {
        if (climber < 0 || climber >= now.at(Cliff.CLIMBERS)) {
            throw new IndexOutOfBoundsException("no such climber");
        }
    }

    private static void needWithin(int number, int least, int most) {
        if (number < least || number > most) {
            throw new IllegalArgumentException("the number is none");
        }
    }

    private static boolean hasBit(int set, int bit) {
        return (set >> bit & 1) == 1;
    }

    private int ledgeSets() {
        return 1 << now.at(Cliff.LEDGES);
    }

    private int holderSets() {
        return 1 << now.at(Cliff.HOLDERS);
    }

    private int sumOf(int set, int what) {
        int sum = 0;
        for (int ledge = 0; ledge < now.at(Cliff.LEDGES); ledge++) {
            if (hasBit(set, ledge)) {
                sum += now.ofLedge(ledge, what);
            }
        }
        return sum;
    }

    private int windsTo(int ledge) {
        int set = 0;
        for (int wind = 0; wind <= MOST_WIND; wind++) {
            if (rules.kicksTo(now, ledge, wind) != NONE) {
                set |= 1 << wind;
            }
        }
        return set;
    }

    private int apart(int one, int other) {
        return Math.abs(now.ofLedge(one, Cliff.FATHOM) - now.ofLedge(other, Cliff.FATHOM));
    }

    private int nextTo(int ledge) {
        int best = NONE;
        for (int other = 0; other < now.at(Cliff.LEDGES); other++) {
            if (other != ledge && (best == NONE || apart(ledge, other) < apart(ledge, best))) {
                best = other;
            }
        }
        return best;
    }

    private int reachOf(int climber) {
        int set = 0;
        for (int ledge = 0; ledge < now.at(Cliff.LEDGES); ledge++) {
            if (rules.canLet(now, climber, ledge)) {
                set |= 1 << ledge;
            }
        }
        return set;
    }

    private boolean isLighter(int climber, int other) {
        return now.ofClimber(climber, Cliff.WEIGHT) < now.ofClimber(other, Cliff.WEIGHT);
    }

    /** The crews of all lesser sets stand in the row already, so a set asks for one crew more than what is left. */
    private int mostCrews(int set, int load) {
        int most = 0;
        for (int crew = 1; crew <= set; crew++) {
            int left = set & ~crew;
            boolean within = (crew & ~set) == 0 && left < crews.length;
            if (within && crews[left] >= most && rules.strengthOf(now, crew) >= load) {
                most = crews[left] + 1;
            }
        }
        return most;
    }

    private int freshBehind(int days, int seed) {
        aside.copy(now);
        aside.put(Cliff.SEED, seed);
        for (int day = 0; day < days; day++) {
            rules.dayMore(aside);
        }
        int eggs = 0;
        for (int ledge = 0; ledge < aside.at(Cliff.LEDGES); ledge++) {
            eggs += aside.freshEggs(ledge);
        }
        return eggs;
    }

    /** The bytes that were fed, and a reader over them that stands at the begin of a thing, never on a blank. */
    private static final class Tape {
        private static final int MOST_DIGITS = 3;

        private final int[] bytes = new int[MOST_BYTES];
        private int length;
        private int place;
        private int wrong = NONE;

        int size() {
            return length;
        }

        int firstWrong() {
            return wrong;
        }

        void append(int number) {
            for (int shift = 24; shift >= 0; shift -= 8) {
                if (length >= 0 && length < bytes.length) {
                    bytes[length] = number >> shift & 255;
                    length++;
                }
            }
        }

        void cut(int n) {
            length = n;
        }

        void begin() {
            wrong = NONE;
            moveTo(0);
        }

        boolean isAtEnd() {
            return place >= length;
        }

        boolean isRight() {
            return wrong == NONE;
        }

        /** Only the first refusal counts: what is read behind it may be out of step. */
        boolean refuse() {
            if (wrong == NONE) {
                wrong = place;
            }
            return false;
        }

        boolean takesWord(String word) {
            int end = place;
            while (end < length && isLetter(byteAt(end))) {
                end++;
            }
            if (end - place != word.length()) {
                return false;
            }
            for (int i = 0; i < word.length(); i++) {
                if (byteAt(place + i) != word.charAt(i)) {
                    return false;
                }
            }
            moveTo(end);
            return true;
        }

        boolean takesSign(char sign) {
            if (byteAt(place) != sign) {
                return false;
            }
            moveTo(place + 1);
            return true;
        }

        boolean isAtDigit() {
            return isDigit(byteAt(place));
        }

        int takeNumber(int least, int most) {
            int end = place;
            int value = 0;
            while (end < length && isDigit(byteAt(end))) {
                if (end - place < MOST_DIGITS) {
                    value = value * 10 + byteAt(end) - '0';
                }
                end++;
            }
            int digits = end - place;
            if (digits < 1 || digits > MOST_DIGITS || value < least || value > most) {
                refuse();
                return NONE;
            }
            moveTo(end);
            return value;
        }

        private void moveTo(int begin) {
            place = begin;
            while (place >= 0 && place < length && place < bytes.length && bytes[place] == ' ') {
                place++;
            }
        }

        private int byteAt(int i) {
            return i >= 0 && i < length && i < bytes.length ? bytes[i] : NONE;
        }

        private static boolean isLetter(int sign) {
            return sign >= 'a' && sign <= 'z';
        }

        private static boolean isDigit(int sign) {
            return sign >= '0' && sign <= '9';
        }
    }

    /** What both texts have in common: LINES with a sign between them. */
    private abstract static class LinesText {
        final Tape tape;

        LinesText(Tape tape) {
            this.tape = tape;
        }

        abstract boolean readLine();

        boolean readLines(int most) {
            tape.begin();
            if (tape.isAtEnd()) {
                return true;
            }
            for (int line = 0; line < most; line++) {
                if (!readLine()) {
                    return false;
                }
                if (tape.isAtEnd()) {
                    return true;
                }
                if (!tape.takesSign(';')) {
                    return tape.refuse();
                }
            }
            return tape.refuse();
        }
    }

    /** Reads THE ISLE into a cliff that the caller drops if the text is wrong. */
    private static final class IsleText extends LinesText {
        private final Cliff cliff;

        IsleText(Tape tape, Cliff cliff) {
            super(tape);
            this.cliff = cliff;
        }

        /** A thing too many is not taken, so that its first word is refused like a word that is none. */
        boolean readLine() {
            if (cliff.at(Cliff.LEDGES) < MOST_LEDGES && tape.takesWord("ledge")) {
                return readLedge();
            }
            if (tape.takesWord("rope")) {
                return readRope();
            }
            if (cliff.at(Cliff.HOLDERS) < MOST_HOLDERS && tape.takesWord("holder")) {
                return readHolder();
            }
            if (cliff.at(Cliff.CLIMBERS) < MOST_CLIMBERS && tape.takesWord("climber")) {
                return readClimber();
            }
            if (tape.takesWord("gale")) {
                return readChance(Cliff.GALE);
            }
            if (tape.takesWord("stones")) {
                return readChance(Cliff.STONES);
            }
            return tape.refuse();
        }

        private boolean readLedge() {
            int fathom = tape.takeNumber(1, MOST_FATHOM);
            int roof = numberBehind("roof", 30);
            int eggs = numberBehind("eggs", MOST_EGGS);
            int age = numberBehind("age", MOST_AGE);
            int birds = numberBehind("birds", 9);
            if (!tape.isRight()) {
                return false;
            }
            int ledge = cliff.at(Cliff.LEDGES);
            cliff.putLedge(ledge, Cliff.FATHOM, fathom);
            cliff.putLedge(ledge, Cliff.ROOF, roof);
            cliff.putLedge(ledge, Cliff.EGGS, eggs);
            cliff.putLedge(ledge, Cliff.AGE, eggs == 0 ? 0 : age);
            cliff.putLedge(ledge, Cliff.BIRDS, birds);
            cliff.add(Cliff.LEDGES, 1);
            return true;
        }

        private int numberBehind(String word, int most) {
            if (!tape.takesWord(word)) {
                tape.refuse();
                return NONE;
            }
            return tape.takeNumber(0, most);
        }

        private boolean readRope() {
            int length = tape.takeNumber(1, MOST_FATHOM);
            if (!tape.takesWord("bears")) {
                return tape.refuse();
            }
            int bears = tape.takeNumber(1, MOST_FRAY);
            if (!tape.isRight()) {
                return false;
            }
            cliff.put(Cliff.LENGTH, length);
            cliff.put(Cliff.BEARS, bears);
            cliff.put(Cliff.FRAY, 0);
            return true;
        }

        private boolean readHolder() {
            int strength = tape.takeNumber(1, 9);
            if (strength == NONE) {
                return false;
            }
            int holder = cliff.at(Cliff.HOLDERS);
            cliff.putHolder(holder, Cliff.STRENGTH, strength);
            cliff.putHolder(holder, Cliff.TIRED, 0);
            cliff.add(Cliff.HOLDERS, 1);
            return true;
        }

        private boolean readClimber() {
            int weight = tape.takeNumber(1, 20);
            if (weight == NONE) {
                return false;
            }
            int climber = cliff.at(Cliff.CLIMBERS);
            cliff.putClimber(climber, Cliff.WEIGHT, weight);
            cliff.putClimber(climber, Cliff.HAS, 0);
            cliff.add(Cliff.CLIMBERS, 1);
            return true;
        }

        private boolean readChance(int cell) {
            int chance = tape.takeNumber(0, 100);
            if (chance == NONE) {
                return false;
            }
            cliff.put(cell, chance);
            return true;
        }
    }

    /** Reads THE LAW into a draft that the caller drops if the text is wrong. */
    private static final class LawText extends LinesText {
        private static final int MOST_DEEP = 6;

        private final Law law;

        LawText(Tape tape, Law law) {
            super(tape);
            this.law = law;
        }

        boolean readLine() {
            int kind = takeKind();
            if (kind == NONE) {
                return tape.refuse();
            }
            int n = tape.takeNumber(0, 20);
            if (n == NONE) {
                return false;
            }
            if (tape.takesWord("if") && !readAny(0)) {
                return false;
            }
            law.addLine(kind, n);
            return true;
        }

        private int takeKind() {
            if (tape.takesWord("swing")) {
                return Law.SWING;
            }
            if (tape.takesWord("wear")) {
                return Law.WEAR;
            }
            return tape.takesWord("lay") ? Law.LAY : NONE;
        }

        private boolean readAny(int deep) {
            for (int all = 0; all < MOST_BYTES; all++) {
                if (!readAtom(deep)) {
                    return false;
                }
                for (int i = 0; i < MOST_BYTES && tape.takesWord("and"); i++) {
                    if (!readAtom(deep)) {
                        return false;
                    }
                    law.addCode(Law.AND);
                }
                // the OR ahead of this ALL waited till it was whole
                if (all > 0) {
                    law.addCode(Law.OR);
                }
                if (!tape.takesWord("or")) {
                    return true;
                }
            }
            return tape.refuse();
        }

        /** At the greatest depth ( and not are no longer looked for, and so refused as no part of a sum. */
        private boolean readAtom(int deep) {
            if (deep < MOST_DEEP && tape.takesWord("not")) {
                if (!readAtom(deep + 1)) {
                    return false;
                }
                law.addCode(Law.NOT);
                return true;
            }
            if (deep < MOST_DEEP && tape.takesSign('(')) {
                return readAny(deep + 1) && (tape.takesSign(')') || tape.refuse());
            }
            if (tape.takesWord("fresh")) {
                law.addCode(Law.PARTS + Law.FRESH);
                return true;
            }
            if (!readSum()) {
                return false;
            }
            boolean less = tape.takesSign('<');
            if (!less && !tape.takesSign('>')) {
                return tape.refuse();
            }
            if (!readSum()) {
                return false;
            }
            law.addCode(less ? Law.LESS : Law.MORE);
            return true;
        }

        private boolean readSum() {
            for (int i = 0; i < MOST_BYTES; i++) {
                int code = tape.isAtDigit() ? tape.takeNumber(0, Law.PARTS - 1) : NONE;
                for (int part = 0; part < Law.FRESH && code == NONE; part++) {
                    if (tape.takesWord(nameOf(part))) {
                        code = Law.PARTS + part;
                    }
                }
                if (code == NONE) {
                    return tape.refuse();
                }
                law.addCode(code);
                if (i > 0) {
                    law.addCode(Law.PLUS);
                }
                if (!tape.takesSign('+')) {
                    return true;
                }
            }
            return tape.refuse();
        }

        private static String nameOf(int part) {
            switch (part) {
                case Cliff.FATHOM: return "fathom";
                case Cliff.ROOF: return "roof";
                case Cliff.EGGS: return "eggs";
                case Cliff.AGE: return "age";
                case Cliff.BIRDS: return "birds";
                case Law.KICK: return "kick";
                case Law.WIND: return "wind";
                default: return "day";
            }
        }
    }

    /** THE LAW: each LINE's condition stands as codes, operands ahead of what joins them. */
    private static final class Law {
        static final int SWING = 0;
        static final int WEAR = 1;
        static final int LAY = 2;

        // codes below PARTS are numbers; the first parts are a ledge's own, by their numbers in Cliff
        static final int PARTS = 1000;
        static final int KICK = 5;
        static final int WIND = 6;
        static final int DAY = 7;
        static final int FRESH = 8;
        static final int NOT = 2000;
        static final int AND = 2001;
        static final int OR = 2002;
        static final int LESS = 2003;
        static final int MORE = 2004;
        static final int PLUS = 2005;

        private static final int MOST_PARTS = 9;
        // six ( within one another hold two answers open each, a comparison three numbers more
        private static final int MOST_OPEN = 24;

        private final int[] kinds = new int[LAW_LINES];
        private final int[] numbers = new int[LAW_LINES];
        private final int[] ends = new int[LAW_LINES];
        private final int[] codes = new int[MOST_BYTES];
        private final int[] parts = new int[MOST_PARTS];
        private final int[] open = new int[MOST_OPEN];
        private int lineCount = NONE;
        private int codeCount;

        int size() {
            return lineCount;
        }

        void begin() {
            lineCount = 0;
            codeCount = 0;
        }

        void addLine(int kind, int number) {
            if (lineCount >= 0 && lineCount < LAW_LINES) {
                kinds[lineCount] = kind;
                numbers[lineCount] = number;
                ends[lineCount] = codeCount;
                lineCount++;
            }
        }

        void addCode(int code) {
            if (codeCount >= 0 && codeCount < MOST_BYTES) {
                codes[codeCount] = code;
                codeCount++;
            }
        }

        void copy(Law other) {
            System.arraycopy(other.kinds, 0, kinds, 0, LAW_LINES);
            System.arraycopy(other.numbers, 0, numbers, 0, LAW_LINES);
            System.arraycopy(other.ends, 0, ends, 0, LAW_LINES);
            System.arraycopy(other.codes, 0, codes, 0, MOST_BYTES);
            lineCount = other.lineCount;
            codeCount = other.codeCount;
        }

        int sum(int kind, Cliff cliff, int ledge, int kick, int wind) {
            for (int what = 0; what < Cliff.LEDGE_CELLS; what++) {
                parts[what] = cliff.ofLedge(ledge, what);
            }
            parts[KICK] = kick;
            parts[WIND] = wind;
            parts[DAY] = cliff.at(Cliff.DAY);
            parts[FRESH] = parts[Cliff.EGGS] > 0 && parts[Cliff.AGE] <= FRESH_AGE ? 1 : 0;
            int sum = 0;
            int from = 0;
            for (int line = 0; line < lineCount && line < LAW_LINES; line++) {
                if (kinds[line] == kind && holds(from, ends[line])) {
                    sum += numbers[line];
                }
                from = ends[line];
            }
            return sum;
        }

        /** Without codes there is no condition, and the LINE holds. */
        private boolean holds(int from, int to) {
            int top = 0;
            for (int i = Math.max(0, from); i < to && i < MOST_BYTES; i++) {
                int code = codes[i];
                if (code < NOT && top < MOST_OPEN) {
                    open[top] = code < PARTS ? code : partAt(code - PARTS);
                    top++;
                } else if (code == NOT && top >= 1) {
                    open[top - 1] = 1 - open[top - 1];
                } else if (code > NOT && top >= 2) {
                    open[top - 2] = joined(code, open[top - 2], open[top - 1]);
                    top--;
                }
            }
            return top == 0 || open[0] == 1;
        }

        private int partAt(int part) {
            return part >= 0 && part < MOST_PARTS ? parts[part] : 0;
        }

        private static int joined(int code, int left, int right) {
            switch (code) {
                case AND: return left & right;
                case OR: return left | right;
                case LESS: return left < right ? 1 : 0;
                case MORE: return left > right ? 1 : 0;
                default: return left + right;
            }
        }
    }

    /** All that acts and texts change but THE LAW, in one row of numbers, so that one copy keeps it or puts it back. */
    private static final class Cliff {
        static final int LENGTH = 0;
        static final int FRAY = 1;
        static final int BEARS = 2;
        static final int DAY = 3;
        static final int WIND = 4;
        static final int GALE = 5;
        static final int STONES = 6;
        static final int HURT = 7;
        static final int STORE = 8;
        static final int OLD = 9;
        static final int SEED = 10;
        static final int TEXTS = 11;
        static final int LEDGES = 12;
        static final int HOLDERS = 13;
        static final int CLIMBERS = 14;
        static final int ROWS = 15;

        static final int FATHOM = 0;
        static final int ROOF = 1;
        static final int EGGS = 2;
        static final int AGE = 3;
        static final int BIRDS = 4;
        static final int LEDGE_CELLS = 5;

        static final int STRENGTH = 0;
        static final int TIRED = 1;
        static final int WEIGHT = 0;
        static final int HAS = 1;

        static final int LOG_CLIMBER = 1;
        static final int LOG_LEDGE = 2;
        static final int LOG_EGGS = 3;

        private static final int LEDGES_FROM = 16;
        private static final int HOLDERS_FROM = LEDGES_FROM + MOST_LEDGES * LEDGE_CELLS;
        private static final int CLIMBERS_FROM = HOLDERS_FROM + MOST_HOLDERS * 2;
        private static final int LOG_FROM = CLIMBERS_FROM + MOST_CLIMBERS * 2;
        private static final int LOG_CELLS = 6;
        private static final int MOST_ROWS = 60;
        private static final int ALL_CELLS = LOG_FROM + MOST_ROWS * LOG_CELLS;

        private final int[] cells = new int[ALL_CELLS];

        Cliff() {
            cells[LENGTH] = 30;
            cells[BEARS] = 100;
            cells[SEED] = 1;
        }

        void copy(Cliff other) {
            System.arraycopy(other.cells, 0, cells, 0, ALL_CELLS);
        }

        int at(int cell) {
            return cell >= 0 && cell < ALL_CELLS ? cells[cell] : 0;
        }

        void put(int cell, int value) {
            if (cell >= 0 && cell < ALL_CELLS) {
                cells[cell] = value;
            }
        }

        void add(int cell, int more) {
            put(cell, at(cell) + more);
        }

        int ofLedge(int ledge, int what) {
            return at(LEDGES_FROM + ledge * LEDGE_CELLS + what);
        }

        void putLedge(int ledge, int what, int value) {
            put(LEDGES_FROM + ledge * LEDGE_CELLS + what, value);
        }

        int ofHolder(int holder, int what) {
            return at(HOLDERS_FROM + holder * 2 + what);
        }

        void putHolder(int holder, int what, int value) {
            put(HOLDERS_FROM + holder * 2 + what, value);
        }

        int ofClimber(int climber, int what) {
            return at(CLIMBERS_FROM + climber * 2 + what);
        }

        void putClimber(int climber, int what, int value) {
            put(CLIMBERS_FROM + climber * 2 + what, value);
        }

        int ofRow(int ago, int what) {
            return at(LOG_FROM + ago * LOG_CELLS + what);
        }

        void putNewestRow(int what, int value) {
            put(LOG_FROM + what, value);
        }

        /** The latest row stands first; the sixtieth is lost. */
        void pushRow() {
            System.arraycopy(cells, LOG_FROM, cells, LOG_FROM + LOG_CELLS, (MOST_ROWS - 1) * LOG_CELLS);
            cells[ROWS] = Math.min(MOST_ROWS, cells[ROWS] + 1);
        }

        int loggedRows(int ledge) {
            int rows = 0;
            for (int ago = 0; ago < cells[ROWS]; ago++) {
                if (ofRow(ago, LOG_LEDGE) == ledge) {
                    rows++;
                }
            }
            return rows;
        }

        int loggedEggs(int whose, int number) {
            int eggs = 0;
            for (int ago = 0; ago < cells[ROWS]; ago++) {
                if (ofRow(ago, whose) == number) {
                    eggs += ofRow(ago, LOG_EGGS);
                }
            }
            return eggs;
        }

        int totalOf(int what) {
            int total = 0;
            for (int ledge = 0; ledge < cells[LEDGES]; ledge++) {
                total += ofLedge(ledge, what);
            }
            return total;
        }

        boolean isFresh(int ledge) {
            return freshEggs(ledge) > 0;
        }

        int freshEggs(int ledge) {
            return ofLedge(ledge, AGE) <= FRESH_AGE ? ofLedge(ledge, EGGS) : 0;
        }

        int draw() {
            cells[SEED] = 1103515245 * cells[SEED] + 12345;
            return cells[SEED] >> 16 & 32767;
        }

        void passDay() {
            cells[DAY] = Math.min(MOST_DAY, cells[DAY] + 1);
        }
    }

    /** What THE LAW and the document make of a cliff, be it the one there is or one that is tried aside. */
    private static final class Rules {
        private final Law law;

        Rules(Law law) {
            this.law = law;
        }

        int swingOf(Cliff cliff, int ledge, int kick, int wind) {
            return law.sum(Law.SWING, cliff, ledge, kick, wind) + 1;
        }

        int wearAt(Cliff cliff, int ledge, int wind) {
            return law.sum(Law.WEAR, cliff, ledge, 0, wind);
        }

        int laysAt(Cliff cliff, int ledge) {
            int told = law.sum(Law.LAY, cliff, ledge, 0, cliff.at(Cliff.WIND));
            return Math.min(told, cliff.ofLedge(ledge, Cliff.BIRDS));
        }

        int kicksTo(Cliff cliff, int ledge, int wind) {
            int roof = cliff.ofLedge(ledge, Cliff.ROOF);
            int far = 0;
            for (int kicks = 0; kicks <= MOST_KICKS; kicks++) {
                if (far >= roof) {
                    return kicks;
                }
                far += swingOf(cliff, ledge, kicks + 1, wind);
            }
            return NONE;
        }

        int loadOf(Cliff cliff, int climber, int ledge) {
            return cliff.ofClimber(climber, Cliff.WEIGHT) + cliff.ofLedge(ledge, Cliff.FATHOM) / 10;
        }

        int strengthOf(Cliff cliff, int set) {
            int strength = 0;
            for (int holder = 0; holder < cliff.at(Cliff.HOLDERS); holder++) {
                if (hasBit(set, holder)) {
                    int left = cliff.ofHolder(holder, Cliff.STRENGTH) - cliff.ofHolder(holder, Cliff.TIRED);
                    strength += Math.max(0, left);
                }
            }
            return strength;
        }

        boolean isHeldByAll(Cliff cliff, int climber, int ledge) {
            return strengthOf(cliff, -1) >= loadOf(cliff, climber, ledge);
        }

        boolean canLet(Cliff cliff, int climber, int ledge) {
            return cliff.at(Cliff.LENGTH) >= cliff.ofLedge(ledge, Cliff.FATHOM)
                    && cliff.at(Cliff.FRAY) < cliff.at(Cliff.BEARS)
                    && isHeldByAll(cliff, climber, ledge)
                    && kicksTo(cliff, ledge, cliff.at(Cliff.WIND)) != NONE;
        }

        /** For one who canLet alone; WEAR and KICKS are asked first, as taking EGGS may change what THE LAW says. */
        int letDown(Cliff cliff, int climber, int ledge, int n) {
            int wind = cliff.at(Cliff.WIND);
            int kicks = kicksTo(cliff, ledge, wind);
            int wear = wearAt(cliff, ledge, wind);
            int taken = takeEggs(cliff, ledge, n);
            cliff.putClimber(climber, Cliff.HAS, cliff.ofClimber(climber, Cliff.HAS) + taken);
            cliff.put(Cliff.FRAY, Math.min(MOST_FRAY, cliff.at(Cliff.FRAY) + kicks + wear));
            for (int holder = 0; holder < cliff.at(Cliff.HOLDERS); holder++) {
                int tired = cliff.ofHolder(holder, Cliff.TIRED) + 1;
                cliff.putHolder(holder, Cliff.TIRED, Math.min(MOST_TIRED, tired));
            }
            int hurt = cliff.draw() % 100 < cliff.at(Cliff.STONES) ? 1 : 0;
            cliff.add(Cliff.HURT, hurt);
            cliff.pushRow();
            cliff.putNewestRow(0, cliff.at(Cliff.DAY));
            cliff.putNewestRow(Cliff.LOG_CLIMBER, climber);
            cliff.putNewestRow(Cliff.LOG_LEDGE, ledge);
            cliff.putNewestRow(Cliff.LOG_EGGS, taken);
            cliff.putNewestRow(4, kicks);
            cliff.putNewestRow(5, hurt);
            return taken;
        }

        private int takeEggs(Cliff cliff, int ledge, int n) {
            int there = cliff.ofLedge(ledge, Cliff.EGGS);
            int taken = Math.min(n, there);
            cliff.add(Cliff.STORE, taken);
            if (cliff.ofLedge(ledge, Cliff.AGE) > FRESH_AGE) {
                cliff.add(Cliff.OLD, taken);
            }
            cliff.putLedge(ledge, Cliff.EGGS, there - taken);
            if (taken == there) {
                cliff.putLedge(ledge, Cliff.AGE, 0);
            }
            return taken;
        }

        /** WIND and GALE are two DRAWS: the document names DRAW twice, and each DRAW moves the SEED. */
        int dayMore(Cliff cliff) {
            cliff.put(Cliff.WIND, cliff.draw() % 10);
            if (cliff.draw() % 100 < cliff.at(Cliff.GALE)) {
                cliff.put(Cliff.WIND, MOST_WIND);
            }
            int laid = 0;
            for (int ledge = 0; ledge < cliff.at(Cliff.LEDGES); ledge++) {
                laid += layOn(cliff, ledge);
            }
            easeHolders(cliff);
            cliff.passDay();
            return laid;
        }

        /** One LEDGE alone may go on, as no LEDGE's eggs depend on another's. */
        void stillDayOf(Cliff cliff, int ledge) {
            layOn(cliff, ledge);
            cliff.passDay();
        }

        int layOn(Cliff cliff, int ledge) {
            int lays = laysAt(cliff, ledge);
            int before = cliff.ofLedge(ledge, Cliff.EGGS);
            int then = Math.min(MOST_EGGS, before + lays);
            int age = before == 0 ? 0 : Math.min(MOST_AGE, cliff.ofLedge(ledge, Cliff.AGE) + 1);
            cliff.putLedge(ledge, Cliff.AGE, age);
            cliff.putLedge(ledge, Cliff.EGGS, then);
            return then - before;
        }

        void easeHolders(Cliff cliff) {
            for (int holder = 0; holder < cliff.at(Cliff.HOLDERS); holder++) {
                cliff.putHolder(holder, Cliff.TIRED, Math.max(0, cliff.ofHolder(holder, Cliff.TIRED) - 2));
            }
        }
    }

    /** HARVEST: the most that can still come from a DAY on, for each set of LEDGES taken ahead of it. */
    private static final class Plan {
        private static final int SETS = 1 << MOST_LEDGES;

        private final Rules rules;
        private final Cliff aside;
        private final int[] worths = new int[MOST_HARVEST * MOST_LEDGES];
        private final int[] bests = new int[MOST_HARVEST * SETS];
        private int days;
        private int ledges;

        Plan(Rules rules, Cliff aside) {
            this.rules = rules;
            this.aside = aside;
        }

        void weigh(Cliff cliff, int n) {
            days = Math.min(n, MOST_HARVEST);
            ledges = Math.min(cliff.at(Cliff.LEDGES), MOST_LEDGES);
            aside.copy(cliff);
            for (int day = 0; day < days; day++) {
                for (int ledge = 0; ledge < ledges; ledge++) {
                    worths[day * MOST_LEDGES + ledge] = aside.freshEggs(ledge);
                    rules.layOn(aside, ledge);
                }
                aside.passDay();
            }
        }

        /** More LEDGES than DAYS gone by cannot be taken yet, so larger sets are passed over. */
        void search() {
            for (int day = days - 1; day >= 0; day--) {
                for (int taken = 0; taken < 1 << ledges; taken++) {
                    if (Integer.bitCount(taken) <= day) {
                        bests[day * SETS + taken] = bestOf(day, taken);
                    }
                }
            }
        }

        int most() {
            return bestFrom(0, 0);
        }

        int ledgeOf(int k) {
            int taken = 0;
            int ledge = NONE;
            for (int day = 0; day <= k && day < days; day++) {
                ledge = firstOf(day, taken);
                if (ledge != NONE) {
                    taken |= 1 << ledge;
                }
            }
            return k < 0 || k >= days ? NONE : ledge;
        }

        int greedy() {
            int taken = 0;
            int eggs = 0;
            for (int day = 0; day < days; day++) {
                int best = NONE;
                for (int ledge = 0; ledge < ledges; ledge++) {
                    boolean more = worthOf(day, ledge) > (best == NONE ? 0 : worthOf(day, best));
                    if (more && !hasBit(taken, ledge)) {
                        best = ledge;
                    }
                }
                if (best != NONE) {
                    taken |= 1 << best;
                    eggs += worthOf(day, best);
                }
            }
            return eggs;
        }

        private int bestOf(int day, int taken) {
            int best = bestFrom(day + 1, taken);
            for (int ledge = 0; ledge < ledges; ledge++) {
                if (!hasBit(taken, ledge)) {
                    best = Math.max(best, bestWith(day, taken, ledge));
                }
            }
            return best;
        }

        private int firstOf(int day, int taken) {
            int best = bestFrom(day, taken);
            if (bestFrom(day + 1, taken) == best) {
                return NONE;
            }
            for (int ledge = 0; ledge < ledges; ledge++) {
                if (!hasBit(taken, ledge) && bestWith(day, taken, ledge) == best) {
                    return ledge;
                }
            }
            return NONE;
        }

        private int bestWith(int day, int taken, int ledge) {
            return worthOf(day, ledge) + bestFrom(day + 1, taken | 1 << ledge);
        }

        private int bestFrom(int day, int taken) {
            boolean known = day >= 0 && day < days && taken >= 0 && taken < SETS;
            return known ? bests[day * SETS + taken] : 0;
        }

        private int worthOf(int day, int ledge) {
            boolean known = day >= 0 && day < days && ledge >= 0 && ledge < ledges;
            return known ? worths[day * MOST_LEDGES + ledge] : 0;
        }
    }

    /** The cliffs as they were ahead of the latest ACTS, in a ring. */
    private static final class Past {
        private final Cliff[] cliffs = new Cliff[MOST_UNDONE];
        private int next;
        private int size;

        Past() {
            for (int i = 0; i < MOST_UNDONE; i++) {
                cliffs[i] = new Cliff();
            }
        }

        int size() {
            return size;
        }

        void forget() {
            size = 0;
        }

        void remember(Cliff cliff) {
            Cliff place = placeAt(next);
            if (place != null) {
                place.copy(cliff);
                next = (next + 1) % MOST_UNDONE;
                size = Math.min(MOST_UNDONE, size + 1);
            }
        }

        boolean undoInto(Cliff cliff) {
            int latest = (next + MOST_UNDONE - 1) % MOST_UNDONE;
            Cliff place = placeAt(latest);
            if (size <= 0 || place == null) {
                return false;
            }
            cliff.copy(place);
            next = latest;
            size--;
            return true;
        }

        private Cliff placeAt(int i) {
            return i >= 0 && i < MOST_UNDONE ? cliffs[i] : null;
        }
    }
}
