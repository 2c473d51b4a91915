import java.util.ArrayDeque;
import java.util.ArrayList;
import java.util.Arrays;
import java.util.List;
import java.util.NoSuchElementException;
import java.util.function.Predicate;
import java.util.function.ToIntFunction;

/** The document once more, slow and plain, written apart from the class: random runs are held against it. */
final class Model {
    static final class Ledge {
        int fathom;
        int roof;
        int eggs;
        int age;
        int birds;

        Ledge copy() {
            Ledge other = new Ledge();
            other.fathom = fathom;
            other.roof = roof;
            other.eggs = eggs;
            other.age = age;
            other.birds = birds;
            return other;
        }

        boolean fresh() {
            return eggs > 0 && age <= 3;
        }
    }

    /** What a condition is asked over. */
    static final class Scene {
        Ledge ledge;
        int kick;
        int wind;
        int day;
    }

    static final class Line {
        String kind;
        int n;
        Predicate<Scene> holds = s -> true;
    }

    /** All that the image keeps. */
    static final class State {
        List<Ledge> ledges = new ArrayList<>();
        List<int[]> holders = new ArrayList<>();
        List<int[]> climbers = new ArrayList<>();
        List<int[]> log = new ArrayList<>();
        List<Line> law;
        int length = 30;
        int fray;
        int bears = 100;
        int day;
        int wind;
        int gale;
        int stones;
        int hurt;
        int store;
        int old;
        int seed = 1;
        int texts;

        State copy() {
            State s = new State();
            ledges.forEach(l -> s.ledges.add(l.copy()));
            holders.forEach(h -> s.holders.add(h.clone()));
            climbers.forEach(k -> s.climbers.add(k.clone()));
            log.forEach(r -> s.log.add(r.clone()));
            s.law = law;
            s.length = length;
            s.fray = fray;
            s.bears = bears;
            s.day = day;
            s.wind = wind;
            s.gale = gale;
            s.stones = stones;
            s.hurt = hurt;
            s.store = store;
            s.old = old;
            s.seed = seed;
            s.texts = texts;
            return s;
        }

        int draw() {
            seed = (int) (1103515245L * seed + 12345L);
            return (int) (Math.floorMod((long) seed, 1L << 31) / 65536);
        }

        int lines(String kind, Ledge ledge, int kick, int wind) {
            if (law == null) {
                return 0;
            }
            Scene scene = new Scene();
            scene.ledge = ledge;
            scene.kick = kick;
            scene.wind = wind;
            scene.day = day;
            return law.stream().filter(l -> l.kind.equals(kind) && l.holds.test(scene)).mapToInt(l -> l.n).sum();
        }

        int far(Ledge ledge, int kicks, int wind) {
            int far = 0;
            for (int k = 1; k <= kicks; k++) {
                far += 1 + lines("swing", ledge, k, wind);
            }
            return far;
        }

        int kicks(Ledge ledge, int wind) {
            for (int k = 0; k <= 12; k++) {
                if (far(ledge, k, wind) >= ledge.roof) {
                    return k;
                }
            }
            return -1;
        }

        int lays(Ledge ledge) {
            return Math.min(ledge.birds, lines("lay", ledge, 0, wind));
        }

        int strength(int set) {
            int sum = 0;
            for (int h = 0; h < holders.size(); h++) {
                if ((set >> h) % 2 != 0) {
                    sum += Math.max(0, holders.get(h)[0] - holders.get(h)[1]);
                }
            }
            return sum;
        }

        int load(int climber, int ledge) {
            return climbers.get(climber)[0] + ledges.get(ledge).fathom / 10;
        }

        boolean can(int climber, int ledge) {
            Ledge l = ledges.get(ledge);
            return length >= l.fathom && strength(-1) >= load(climber, ledge) && kicks(l, wind) >= 0 && fray < bears;
        }

        int let(int climber, int ledge, int n) {
            Ledge l = ledges.get(ledge);
            int kicks = kicks(l, wind);
            fray = Math.min(999, fray + kicks + lines("wear", l, 0, wind));
            int taken = Math.min(n, l.eggs);
            store += taken;
            old += l.age > 3 ? taken : 0;
            l.eggs -= taken;
            l.age = l.eggs == 0 ? 0 : l.age;
            climbers.get(climber)[1] += taken;
            holders.forEach(h -> h[1] = Math.min(9, h[1] + 1));
            int hit = draw() % 100 < stones ? 1 : 0;
            hurt += hit;
            log.add(0, new int[] {day, climber, ledge, taken, kicks, hit});
            if (log.size() > 60) {
                log.remove(60);
            }
            return taken;
        }

        int still() {
            int laid = 0;
            for (Ledge l : ledges) {
                int come = Math.min(lays(l), 20 - l.eggs);
                l.age = l.eggs == 0 ? 0 : Math.min(99, l.age + 1);
                l.eggs += come;
                laid += come;
            }
            day = Math.min(9999, day + 1);
            return laid;
        }

        int oneDay() {
            wind = draw() % 10;
            if (draw() % 100 < gale) {
                wind = 9;
            }
            holders.forEach(h -> h[1] = Math.max(0, h[1] - 2));
            return still();
        }

        int eggs() {
            return ledges.stream().mapToInt(l -> l.eggs).sum();
        }

        int birds() {
            return ledges.stream().mapToInt(l -> l.birds).sum();
        }

        int sum(int set, ToIntFunction<Ledge> what) {
            int sum = 0;
            for (int l = 0; l < ledges.size(); l++) {
                if ((set & 1 << l) != 0) {
                    sum += what.applyAsInt(ledges.get(l));
                }
            }
            return sum;
        }
    }

    private static final class WrongText extends RuntimeException {
        final int place;

        WrongText(int place) {
            this.place = place;
        }
    }

    private State s = new State();
    private State image;
    private final ArrayDeque<State> past = new ArrayDeque<>();
    private String tape = "";
    private int fault = -1;

    // ---- texts

    private String text;
    private int place;

    int feed(int... five) {
        if (tape.length() + 20 > 400) {
            return -1;
        }
        StringBuilder more = new StringBuilder(tape);
        for (int n : five) {
            for (int b = 3; b >= 0; b--) {
                more.append((char) ((n >>> 8 * b) % 256));
            }
        }
        tape = more.toString();
        return tape.length();
    }

    boolean end(int n) {
        if (n < 0 || n > tape.length()) {
            return false;
        }
        tape = tape.substring(0, n);
        return true;
    }

    /** The next thing as it stands: a word, a run of digits, one sign, or nothing at the end. */
    private String peek() {
        while (place < text.length() && text.charAt(place) == ' ') {
            place++;
        }
        int end = place;
        for (String kind : new String[] {"[a-z]", "[0-9]"}) {
            while (end < text.length() && text.substring(end, end + 1).matches(kind)) {
                end++;
            }
            if (end > place) {
                return text.substring(place, end);
            }
        }
        return text.substring(place, Math.min(place + 1, text.length()));
    }

    private boolean take(String thing) {
        if (!peek().equals(thing)) {
            return false;
        }
        place += thing.length();
        return true;
    }

    private void need(String thing) {
        if (!take(thing)) {
            throw new WrongText(place);
        }
    }

    private int number(int least, int most) {
        String digits = peek();
        if (!digits.matches("[0-9]{1,3}") || Integer.parseInt(digits) < least || Integer.parseInt(digits) > most) {
            throw new WrongText(place);
        }
        take(digits);
        return Integer.parseInt(digits);
    }

    private int number(String word, int least, int most) {
        need(word);
        return number(least, most);
    }

    private void read(int mostLines, Runnable line) {
        text = tape;
        tape = "";
        place = 0;
        fault = -1;
        try {
            int lines = 0;
            boolean more = !peek().isEmpty();
            while (more) {
                peek();
                if (lines == mostLines) {
                    throw new WrongText(place);
                }
                line.run();
                lines++;
                more = take(";");
            }
            if (!peek().isEmpty()) {
                throw new WrongText(place);
            }
        } catch (WrongText wrong) {
            fault = wrong.place;
            throw new IllegalArgumentException();
        }
    }

    int isle() {
        State next = s.copy();
        read(14, () -> isleLine(next));
        if (s.texts == 12) {
            throw new UnsupportedOperationException();
        }
        next.texts++;
        s = next;
        past.clear();
        return s.texts;
    }

    private void isleLine(State next) {
        String word = peek();
        boolean full = word.equals("ledge") && next.ledges.size() == 10 || word.equals("holder") && next.holders.size() == 6
                || word.equals("climber") && next.climbers.size() == 4;
        if (full || !word.matches("ledge|rope|holder|climber|gale|stones")) {
            throw new WrongText(place);
        }
        switch (word) {
            case "ledge" -> {
                Ledge l = new Ledge();
                l.fathom = number("ledge", 1, 40);
                l.roof = number("roof", 0, 30);
                l.eggs = number("eggs", 0, 20);
                l.age = number("age", 0, 99);
                l.birds = number("birds", 0, 9);
                if (l.eggs == 0) {
                    l.age = 0;
                }
                next.ledges.add(l);
            }
            case "rope" -> {
                next.length = number("rope", 1, 40);
                next.bears = number("bears", 1, 999);
                next.fray = 0;
            }
            case "holder" -> next.holders.add(new int[] {number("holder", 1, 9), 0});
            case "climber" -> next.climbers.add(new int[] {number("climber", 1, 20), 0});
            case "gale" -> next.gale = number("gale", 0, 100);
            default -> next.stones = number("stones", 0, 100);
        }
    }

    int law() {
        List<Line> lines = new ArrayList<>();
        read(12, () -> lines.add(lawLine()));
        s = s.copy();
        s.law = lines;
        past.clear();
        return lines.size();
    }

    private Line lawLine() {
        Line line = new Line();
        line.kind = peek();
        if (!line.kind.matches("swing|wear|lay")) {
            throw new WrongText(place);
        }
        take(line.kind);
        line.n = number(0, 20);
        if (take("if")) {
            line.holds = any(6);
        }
        return line;
    }

    private Predicate<Scene> any(int deeper) {
        Predicate<Scene> left = all(deeper);
        while (take("or")) {
            left = left.or(all(deeper));
        }
        return left;
    }

    private Predicate<Scene> all(int deeper) {
        Predicate<Scene> left = atom(deeper);
        while (take("and")) {
            left = left.and(atom(deeper));
        }
        return left;
    }

    private Predicate<Scene> atom(int deeper) {
        String thing = peek();
        if (thing.equals("(") || thing.equals("not")) {
            if (deeper == 0) {
                throw new WrongText(place);
            }
            take(thing);
            if (thing.equals("not")) {
                return atom(deeper - 1).negate();
            }
            Predicate<Scene> inner = any(deeper - 1);
            need(")");
            return inner;
        }
        if (take("fresh")) {
            return scene -> scene.ledge.fresh();
        }
        ToIntFunction<Scene> left = sum();
        boolean less = take("<");
        if (!less) {
            need(">");
        }
        ToIntFunction<Scene> right = sum();
        return less ? scene -> left.applyAsInt(scene) < right.applyAsInt(scene)
                : scene -> left.applyAsInt(scene) > right.applyAsInt(scene);
    }

    private ToIntFunction<Scene> sum() {
        List<ToIntFunction<Scene>> parts = new ArrayList<>();
        do {
            parts.add(part());
        } while (take("+"));
        return scene -> parts.stream().mapToInt(p -> p.applyAsInt(scene)).sum();
    }

    private ToIntFunction<Scene> part() {
        String thing = peek();
        if (thing.matches("[0-9]+")) {
            int n = number(0, 999);
            return scene -> n;
        }
        ToIntFunction<Scene> part = switch (thing) {
            case "kick" -> scene -> scene.kick;
            case "fathom" -> scene -> scene.ledge.fathom;
            case "roof" -> scene -> scene.ledge.roof;
            case "wind" -> scene -> scene.wind;
            case "eggs" -> scene -> scene.ledge.eggs;
            case "age" -> scene -> scene.ledge.age;
            case "birds" -> scene -> scene.ledge.birds;
            case "day" -> scene -> scene.day;
            default -> throw new WrongText(place);
        };
        take(thing);
        return part;
    }

    int fault() {
        return fault;
    }

    // ---- what there is

    private Ledge at(int ledge) {
        within(ledge, s.ledges.size());
        return s.ledges.get(ledge);
    }

    private static void within(int n, int size) {
        if (n < 0 || n >= size) {
            throw new IndexOutOfBoundsException();
        }
    }

    private void both(int climber, int ledge) {
        within(climber, s.climbers.size());
        within(ledge, s.ledges.size());
    }

    private static void range(int n, int least, int most) {
        if (n < least || n > most) {
            throw new IllegalArgumentException();
        }
    }

    int ledge(int ledge, int what) {
        Ledge l = at(ledge);
        return switch (what) {
            case 0 -> l.fathom;
            case 1 -> l.roof;
            case 2 -> l.eggs;
            case 3 -> l.age;
            case 4 -> l.birds;
            case 5 -> s.lays(l);
            case 6 -> bits(10, wind -> s.kicks(l, wind) >= 0);
            case 7 -> next(ledge);
            default -> throw new NoSuchElementException();
        };
    }

    private static int bits(int size, Predicate<Integer> in) {
        int set = 0;
        for (int i = 0; i < size; i++) {
            set += in.test(i) ? 1 << i : 0;
        }
        return set;
    }

    private int next(int ledge) {
        for (int apart = 0; apart < 40; apart++) {
            for (int other = 0; other < s.ledges.size(); other++) {
                if (other != ledge && Math.abs(at(other).fathom - at(ledge).fathom) == apart) {
                    return other;
                }
            }
        }
        return -1;
    }

    int holder(int holder, boolean tired) {
        within(holder, s.holders.size());
        return s.holders.get(holder)[tired ? 1 : 0];
    }

    int climber(int climber, int what) {
        within(climber, s.climbers.size());
        if (what < 0 || what > 2) {
            throw new NoSuchElementException();
        }
        return what < 2 ? s.climbers.get(climber)[what] : reach(climber);
    }

    private int reach(int climber) {
        return bits(s.ledges.size(), l -> s.can(climber, l));
    }

    int kicks(int ledge, int wind) {
        Ledge l = at(ledge);
        range(wind, 0, 9);
        return s.kicks(l, wind);
    }

    int swing(int ledge, int kick, int wind) {
        Ledge l = at(ledge);
        range(kick, 1, 12);
        range(wind, 0, 9);
        return s.far(l, kick, wind) - s.far(l, kick - 1, wind);
    }

    int load(int climber, int ledge) {
        both(climber, ledge);
        return s.load(climber, ledge);
    }

    boolean held(int climber, int ledge, int holders) {
        both(climber, ledge);
        return s.strength(holders) >= s.load(climber, ledge);
    }

    // ---- acts

    private void act() {
        past.push(s);
        if (past.size() > 12) {
            past.removeLast();
        }
        s = s.copy();
    }

    int let(int climber, int ledge, int n) {
        both(climber, ledge);
        range(n, 0, 20);
        if (!s.can(climber, ledge)) {
            throw new IllegalStateException();
        }
        act();
        return s.let(climber, ledge, n);
    }

    int clear(int ledge) {
        at(ledge);
        act();
        Ledge l = at(ledge);
        int gone = l.eggs;
        l.eggs = 0;
        l.age = 0;
        l.birds = Math.max(0, l.birds - 1);
        return gone;
    }

    int turn() {
        act();
        s.fray /= 2;
        return s.fray;
    }

    int rest(int holder) {
        within(holder, s.holders.size());
        act();
        int tired = s.holders.get(holder)[1];
        s.holders.get(holder)[1] = 0;
        return tired;
    }

    int days(int n) {
        range(n, 1, 60);
        act();
        int laid = 0;
        for (int i = 0; i < n; i++) {
            laid += s.oneDay();
        }
        return laid;
    }

    // ---- what will be

    private Ledge later(int ledge, int n) {
        State t = s.copy();
        for (int i = 0; i < n; i++) {
            t.still();
        }
        return t.ledges.get(ledge);
    }

    int ahead(int ledge, int n, boolean age) {
        at(ledge);
        range(n, 0, 40);
        Ledge l = later(ledge, n);
        return age ? l.age : l.eggs;
    }

    int fresh() {
        return bits(s.ledges.size(), l -> at(l).fresh());
    }

    private int first(int ledge, Predicate<Ledge> is) {
        for (int n = 0; n <= 40; n++) {
            if (is.test(later(ledge, n))) {
                return n;
            }
        }
        return -1;
    }

    int when(int ledge, int eggs) {
        at(ledge);
        range(eggs, 1, 20);
        return first(ledge, l -> l.eggs >= eggs && l.age <= 3);
    }

    int late(int ledge) {
        at(ledge);
        return first(ledge, l -> l.eggs > 0 && l.age > 3);
    }

    private int[][] worths(int n) {
        int[][] worth = new int[n][s.ledges.size()];
        for (int d = 0; d < n; d++) {
            for (int l = 0; l < s.ledges.size(); l++) {
                Ledge then = later(l, d);
                worth[d][l] = then.fresh() ? then.eggs : 0;
            }
        }
        return worth;
    }

    /** The most from a day on; memo[day][taken] is 1 more than that, 0 while it is not known. */
    private static int most(int[][] worth, int[][] memo, int day, int taken) {
        if (day == worth.length) {
            return 0;
        }
        if (memo[day][taken] == 0) {
            int best = most(worth, memo, day + 1, taken);
            for (int l = 0; l < worth[day].length; l++) {
                if ((taken & 1 << l) == 0) {
                    best = Math.max(best, worth[day][l] + most(worth, memo, day + 1, taken | 1 << l));
                }
            }
            memo[day][taken] = best + 1;
        }
        return memo[day][taken] - 1;
    }

    int harvest(int n, int k) {
        range(n, 1, 10);
        int[][] worth = worths(n);
        int[][] memo = new int[n][1024];
        int left = most(worth, memo, 0, 0);
        if (k == -1) {
            return left;
        }
        int taken = 0;
        for (int day = 0; day < n; day++) {
            int chosen = -1;
            while (chosen >= 0 && ((taken & 1 << chosen) != 0 || worth[day][chosen] + most(worth, memo, day + 1, taken | 1 << chosen) != left)
                    || chosen < 0 && most(worth, memo, day + 1, taken) != left) {
                chosen++;
            }
            if (day == k) {
                return chosen;
            }
            if (chosen >= 0) {
                taken |= 1 << chosen;
                left -= worth[day][chosen];
            }
        }
        return -1;
    }

    int loss(int n) {
        int most = harvest(n, -1);
        int[][] worth = worths(n);
        boolean[] taken = new boolean[10];
        for (int d = 0; d < n; d++) {
            int top = 0;
            for (int l = 0; l < worth[d].length; l++) {
                top = taken[l] ? top : Math.max(top, worth[d][l]);
            }
            for (int l = 0; l < worth[d].length && top > 0; l++) {
                if (!taken[l] && worth[d][l] == top) {
                    taken[l] = true;
                    most -= top;
                    break;
                }
            }
        }
        return most;
    }

    int leave(int n) {
        range(n, 0, 90);
        for (int eggs = 0; eggs <= 200; eggs++) {
            for (int set = 0; set < 1 << s.ledges.size(); set++) {
                if (s.sum(set, l -> l.eggs) == eggs && s.sum(set, l -> l.birds) >= n) {
                    return set;
                }
            }
        }
        return -1;
    }

    private State tried(int n, int seed) {
        State t = s.copy();
        t.seed = seed;
        for (int i = 0; i < n; i++) {
            t.oneDay();
        }
        return t;
    }

    int trial(int n, boolean wind) {
        range(n, 0, 40);
        State t = tried(n, s.seed);
        return wind ? t.wind : t.eggs();
    }

    int span(int n, boolean most) {
        range(n, 0, 40);
        int[] got = new int[6];
        for (int seed = 1; seed <= 6; seed++) {
            got[seed - 1] = tried(n, seed).ledges.stream().filter(Ledge::fresh).mapToInt(l -> l.eggs).sum();
        }
        Arrays.sort(got);
        return most ? got[5] : got[0];
    }

    // ---- the rope, the holders, the climbers

    int lasts(int ledge, int wind) {
        Ledge l = at(ledge);
        range(wind, 0, 9);
        int kicks = s.kicks(l, wind);
        if (kicks < 0) {
            return -1;
        }
        int each = kicks + s.lines("wear", l, 0, wind);
        int left = s.bears - s.fray;
        if (left <= 0) {
            return 0;
        }
        return each == 0 ? 99 : Math.min(99, (left + each - 1) / each);
    }

    int enough(int climber, int ledge) {
        both(climber, ledge);
        for (int size = 0; size <= 6; size++) {
            for (int set = 0; set < 1 << s.holders.size(); set++) {
                if (Integer.bitCount(set) == size && held(climber, ledge, set)) {
                    return set;
                }
            }
        }
        return -1;
    }

    /** Every way to put each holder into one of six shifts or into none. */
    int shifts(int climber, int ledge) {
        both(climber, ledge);
        return bestShifts(new int[6], 0, s.load(climber, ledge));
    }

    private int bestShifts(int[] strong, int holder, int load) {
        if (holder == s.holders.size()) {
            return (int) Arrays.stream(strong).filter(x -> x >= load).count();
        }
        int best = bestShifts(strong, holder + 1, load);
        for (int i = 0; i <= holder; i++) {
            int[] next = strong.clone();
            next[i] += s.strength(1 << holder);
            best = Math.max(best, bestShifts(next, holder + 1, load));
        }
        return best;
    }

    int who() {
        for (int reached = 10; reached >= 0; reached--) {
            for (int weight = 1; weight <= 20; weight++) {
                for (int k = 0; k < s.climbers.size(); k++) {
                    if (s.climbers.get(k)[0] == weight && Integer.bitCount(reach(k)) == reached) {
                        return k;
                    }
                }
            }
        }
        return -1;
    }

    int farthest(int ledge, int kicks, int wind) {
        Ledge l = at(ledge);
        range(kicks, 0, 12);
        range(wind, 0, 9);
        return s.far(l, kicks, wind);
    }

    int calm(int ledge) {
        Ledge l = at(ledge);
        for (int kicks = 0; kicks <= 12; kicks++) {
            for (int wind = 0; wind <= 9; wind++) {
                if (s.kicks(l, wind) == kicks) {
                    return wind;
                }
            }
        }
        return -1;
    }

    int trips(int climber, int ledge) {
        both(climber, ledge);
        State t = s.copy();
        int trips = 0;
        while (trips < 99 && t.can(climber, ledge)) {
            t.let(climber, ledge, 0);
            trips++;
        }
        return trips;
    }

    int recovers(int climber, int ledge) {
        both(climber, ledge);
        for (int d = 0; d <= 5; d++) {
            int less = 2 * d;
            int strong = s.holders.stream().mapToInt(h -> Math.max(0, h[0] - Math.max(0, h[1] - less))).sum();
            if (strong >= s.load(climber, ledge)) {
                return d;
            }
        }
        return -1;
    }

    int lightest() {
        for (int weight = 1; weight <= 20; weight++) {
            for (int k = 0; k < s.climbers.size(); k++) {
                if (s.climbers.get(k)[0] == weight) {
                    return k;
                }
            }
        }
        return -1;
    }

    // ---- fathoms, signs, sets, shares

    int pairs(int n) {
        range(n, 0, 39);
        int pairs = 0;
        for (Ledge a : s.ledges) {
            for (Ledge b : s.ledges) {
                pairs += a != b && Math.abs(a.fathom - b.fathom) <= n ? 1 : 0;
            }
        }
        return pairs / 2;
    }

    private static boolean apart(int signs, int e) {
        int[] by = new int[40];
        for (int sign = 1; sign <= 12; sign++) {
            for (int h = sign - e; h <= sign + e && (signs & 1 << sign - 1) != 0; h++) {
                if (++by[h + 10] > 1) {
                    return false;
                }
            }
        }
        return true;
    }

    int jerks(int n, int e) {
        range(n, 1, 12);
        range(e, 0, 5);
        int most = 0;
        for (int signs = 0; signs < 1 << n; signs++) {
            most = apart(signs, e) ? Math.max(most, Integer.bitCount(signs)) : most;
        }
        return most;
    }

    boolean safe(int signs, int e) {
        range(e, 0, 5);
        return apart(signs, e);
    }

    int heard(int signs, int jerks, int e) {
        range(e, 0, 5);
        return bits(12, i -> (signs & 1 << i) != 0 && Math.abs((long) i + 1 - jerks) <= e);
    }

    int round(int ledges) {
        int deepest = 0;
        for (int l = 0; l < s.ledges.size(); l++) {
            deepest = (ledges & 1 << l) == 0 ? deepest : Math.max(deepest, at(l).fathom);
        }
        return deepest > s.length ? -1 : deepest + deepest;
    }

    int split(boolean part) {
        for (int apart = 0; ; apart++) {
            for (int set = 0; set < 1 << s.ledges.size(); set++) {
                int one = s.sum(set, l -> l.eggs);
                if (Math.abs(one - (s.eggs() - one)) == apart) {
                    return part ? set : apart;
                }
            }
        }
    }

    int share(int n, boolean rope) {
        range(n, 0, 9999);
        int shares = s.climbers.size() + s.holders.size() + 2;
        return rope ? n / shares + n % shares : n / shares;
    }

    private int worth(boolean takes, boolean otherTakes) {
        return takes ? s.eggs() : otherTakes ? s.birds() : 2 * s.birds();
    }

    int rests() {
        boolean[][] ways = {{true, true}, {true, false}, {false, true}, {false, false}};
        return bits(4, w -> {
            boolean a = ways[w][0];
            boolean b = ways[w][1];
            return worth(!a, b) <= worth(a, b) && worth(!b, a) <= worth(b, a);
        });
    }

    int how(int eggs, boolean sure) {
        int ways = 0;
        int in = -1;
        for (int set = 0; set < 1 << s.ledges.size(); set++) {
            if (s.sum(set, l -> l.eggs) == eggs) {
                ways++;
                in &= set;
            }
        }
        return !sure ? ways : ways == 0 ? 0 : in;
    }

    // ---- the log and what was

    int led(int ledge, boolean eggs) {
        at(ledge);
        return s.log.stream().filter(r -> r[2] == ledge).mapToInt(r -> eggs ? r[3] : 1).sum();
    }

    int lucky() {
        int best = -1;
        int most = 0;
        for (int k = 0; k < s.climbers.size(); k++) {
            int whose = k;
            int eggs = s.log.stream().filter(r -> r[1] == whose).mapToInt(r -> r[3]).sum();
            if (eggs > most) {
                most = eggs;
                best = k;
            }
        }
        return best;
    }

    int log(int ago, int what) {
        if (what < 0 || what > 5) {
            throw new NoSuchElementException();
        }
        return ago < 0 || ago >= s.log.size() ? -1 : s.log.get(ago)[what];
    }

    int seed(int n) {
        int was = s.seed;
        s.seed = n;
        return was;
    }

    boolean undo() {
        if (past.isEmpty()) {
            return false;
        }
        s = past.pop();
        return true;
    }

    void image() {
        image = s.copy();
    }

    boolean back() {
        if (image == null) {
            return false;
        }
        s = image.copy();
        past.clear();
        return true;
    }

    int count(int what) {
        int[] all = {s.ledges.size(), s.holders.size(), s.climbers.size(), s.texts, s.law == null ? -1 : s.law.size(), s.day, s.wind,
            s.length, s.fray, s.bears, s.store, s.old, s.hurt, s.eggs(), s.birds(), s.log.size(), past.size()};
        return what < 0 || what >= all.length ? -1 : all[what];
    }
}
