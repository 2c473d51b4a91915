import java.nio.ByteBuffer;
import java.nio.charset.StandardCharsets;
import java.util.Arrays;
import java.util.Random;

/** Random runs of all calls, each answer and each throw held against the model. */
public final class ModelTest {
    private static final int RUNS = 400;
    private static final Check c = new Check();

    private final Random dice;
    private final int run;
    private final LedgeEggs x = new LedgeEggs();
    private final Model m = new Model();
    private int calls;
    private int ledges;

    private ModelTest(int run) {
        this.run = run;
        this.dice = new Random(run);
    }

    public static void main(String[] args) {
        for (int run = 0; run < RUNS; run++) {
            new ModelTest(run).go();
        }
        c.end("ModelTest");
    }

    private void go() {
        tellIsle(goodIsle());
        if (dice.nextInt(5) > 0) {
            tellLaw(goodLaw());
        }
        while (calls < 490) {
            one();
        }
    }

    private void same(String call, Check.Call got, Check.Call want) {
        calls++;
        c.due("run " + run + " call " + calls + " " + call, Check.answer(got), Check.answer(want));
    }

    private void tell(String text) {
        byte[] bytes = text.getBytes(StandardCharsets.ISO_8859_1);
        for (int from = 0; from < bytes.length; from += 20) {
            ByteBuffer f = ByteBuffer.wrap(Arrays.copyOfRange(bytes, from, from + 20));
            int[] five = {f.getInt(), f.getInt(), f.getInt(), f.getInt(), f.getInt()};
            same("feed", () -> x.feed(five[0], five[1], five[2], five[3], five[4]), () -> m.feed(five));
        }
        same("end", () -> x.end(bytes.length), () -> m.end(bytes.length));
    }

    private void tellIsle(String text) {
        tell(text);
        same("isle '" + text + "'", x::isle, m::isle);
        same("fault of '" + text + "'", x::fault, m::fault);
        ledges = m.count(0);
    }

    private void tellLaw(String text) {
        tell(text);
        same("law '" + text + "'", x::law, m::law);
        same("fault of '" + text + "'", x::fault, m::fault);
    }

    private int upTo(int most) {
        return dice.nextInt(most + 1);
    }

    private String blanks() {
        return " ".repeat(dice.nextInt(4) / 3);
    }

    private String goodIsle() {
        StringBuilder text = new StringBuilder();
        int lines = 1 + dice.nextInt(14);
        for (int i = 0; i < lines; i++) {
            text.append(i == 0 ? "" : ";").append(isleLine());
        }
        return text.length() > 390 ? goodIsle() : text.toString();
    }

    private String isleLine() {
        switch (dice.nextInt(9)) {
            case 0: return "rope " + (15 + upTo(25)) + " bears " + (1 + upTo(dice.nextBoolean() ? 998 : 60));
            case 1: return "gale " + upTo(100);
            case 2: return "stones" + upTo(100) + blanks();
            case 3:
            case 4: return blanks() + "holder " + (1 + upTo(8));
            case 5: return "climber " + (1 + upTo(dice.nextBoolean() ? 19 : 5));
            default: return "ledge " + (1 + upTo(dice.nextBoolean() ? 39 : 20)) + " roof " + upTo(30) + " eggs " + upTo(dice.nextBoolean() ? 20 : 4)
                    + " age" + upTo(dice.nextInt(9) == 0 ? 99 : 5) + " birds " + upTo(9);
        }
    }

    private String goodLaw() {
        StringBuilder text = new StringBuilder();
        int lines = 1 + dice.nextInt(12);
        for (int i = 0; i < lines; i++) {
            String kind = new String[] {"swing", "wear", "lay"}[dice.nextInt(3)];
            text.append(i == 0 ? "" : ";").append(kind).append(' ').append(upTo(dice.nextInt(4) == 0 ? 20 : 3));
            if (dice.nextInt(3) > 0) {
                text.append(" if ").append(any(2 + dice.nextInt(5)));
            }
        }
        return text.length() > 390 ? goodLaw() : text.toString();
    }

    private String any(int deeper) {
        String text = atom(deeper);
        while (dice.nextInt(3) == 0) {
            text += (dice.nextBoolean() ? " or " : " and ") + atom(deeper);
        }
        return text;
    }

    private String atom(int deeper) {
        int kind = dice.nextInt(6);
        if (kind == 0 && deeper > 0) {
            return "not " + atom(deeper - 1);
        }
        if (kind == 1 && deeper > 0) {
            return "(" + any(deeper - 1) + ")" + blanks();
        }
        return kind == 2 ? "fresh" : sum() + (dice.nextBoolean() ? "<" : " > ") + sum();
    }

    private String sum() {
        String text = part();
        while (dice.nextInt(4) == 0) {
            text += "+" + part();
        }
        return text;
    }

    private String part() {
        String[] names = {"kick", "fathom", "roof", "wind", "eggs", "age", "birds", "day"};
        return dice.nextInt(3) == 0 ? Integer.toString(upTo(dice.nextInt(4) == 0 ? 999 : 9)) : names[dice.nextInt(8)] + blanks();
    }

    private String spoilt(String text) {
        if (text.isEmpty()) {
            return ";";
        }
        String[] bits = {"", " ", ";", "0", "77", "x", "not ", "(", ")", "<", "and ", "holder 1", ";ledge 1 roof 1 eggs 1 age 1 birds 1", "\u00ff", "\n", "if "};
        int at = dice.nextInt(text.length());
        String out = text.substring(0, at) + bits[dice.nextInt(bits.length)] + text.substring(Math.min(text.length(), at + dice.nextInt(3)));
        return out.length() > 400 ? out.substring(0, 400) : out;
    }

    /** A number that mostly is one of 0 to most, now and then a bit or far beyond. */
    private int near(int most) {
        switch (dice.nextInt(16)) {
            case 0: return dice.nextInt(3) == 0 ? dice.nextInt() : -1 - dice.nextInt(3);
            case 1: return most + 1 + dice.nextInt(2);
            case 2: return most;
            default: return upTo(Math.max(0, most));
        }
    }

    private int ledge() {
        return near(ledges - 1);
    }

    private int climber() {
        return near(m.count(2) - 1);
    }

    private void one() {
        int kind = dice.nextInt(30);
        if (kind < 10) {
            act();
        } else if (kind < 18) {
            see();
        } else if (kind < 23) {
            look();
        } else if (kind < 26) {
            reckon();
        } else if (kind < 29) {
            signs();
        } else {
            texts();
        }
        int what = dice.nextInt(18);
        same("count(" + what + ")", () -> x.count(what), () -> m.count(what));
    }

    private void texts() {
        int kind = dice.nextInt(8);
        if (kind < 3 && calls < 440) {
            tellIsle(kind == 0 ? isleLine() : spoilt(goodIsle()));
        } else if (kind < 6 && calls < 440) {
            tellLaw(kind == 3 ? goodLaw() : spoilt(goodLaw()));
        } else if (kind == 6) {
            same("image", () -> { x.image(); return 0; }, () -> { m.image(); return 0; });
        } else {
            same("back", x::back, m::back);
            ledges = m.count(0);
        }
    }

    private void act() {
        int a = climber();
        int b = ledge();
        int n = near(20);
        int d = near(dice.nextInt(3) == 0 ? 60 : 3);
        switch (dice.nextInt(12)) {
            case 0: same("clear " + b, () -> x.clear(b), () -> m.clear(b)); break;
            case 1: same("turn", x::turn, m::turn); break;
            case 2: same("rest " + a, () -> x.rest(a), () -> m.rest(a)); break;
            case 3:
            case 4: same("days " + d, () -> x.days(d), () -> m.days(d)); break;
            case 5: same("undo", x::undo, m::undo); break;
            case 6: same("seed " + n, () -> x.seed(n), () -> m.seed(n)); break;
            default: same("let " + a + " " + b + " " + n, () -> x.let(a, b, n), () -> m.let(a, b, n));
        }
    }

    private void see() {
        int a = ledge();
        int b = near(12);
        int w = near(9);
        int k = climber();
        int set = dice.nextInt(4) == 0 ? dice.nextInt() : upTo(63);
        boolean flag = dice.nextBoolean();
        switch (dice.nextInt(13)) {
            case 0: same("ledge " + a + " " + w, () -> x.ledge(a, w), () -> m.ledge(a, w)); break;
            case 1: same("holder", () -> x.holder(k, flag), () -> m.holder(k, flag)); break;
            case 2: same("climber " + k, () -> x.climber(k, w % 4), () -> m.climber(k, w % 4)); break;
            case 3: same("kicks", () -> x.kicks(a, w), () -> m.kicks(a, w)); break;
            case 4: same("swing", () -> x.swing(a, b, w), () -> m.swing(a, b, w)); break;
            case 5: same("load", () -> x.load(k, a), () -> m.load(k, a)); break;
            case 6: same("held", () -> x.held(k, a, set), () -> m.held(k, a, set)); break;
            case 7: same("fresh", x::fresh, m::fresh); break;
            case 8: same("farthest", () -> x.farthest(a, b, w), () -> m.farthest(a, b, w)); break;
            case 9: same("calm", () -> x.calm(a), () -> m.calm(a)); break;
            case 10: same("led", () -> x.led(a, flag), () -> m.led(a, flag)); break;
            case 11: same("log", () -> x.log(dice(b), w % 7), () -> m.log(last, w % 7)); break;
            default: same("lucky", x::lucky, m::lucky);
        }
    }

    private int last;

    private int dice(int b) {
        last = b < 9 ? b : near(62);
        return last;
    }

    private void look() {
        int a = ledge();
        int n = near(40);
        int h = near(10);
        int e = near(20);
        int k = near(dice.nextInt(4) == 0 ? 10 : 3) - dice.nextInt(2);
        boolean flag = dice.nextBoolean();
        switch (dice.nextInt(8)) {
            case 0: same("ahead " + a + " " + n, () -> x.ahead(a, n, flag), () -> m.ahead(a, n, flag)); break;
            case 1: same("when", () -> x.when(a, e), () -> m.when(a, e)); break;
            case 2: same("late", () -> x.late(a), () -> m.late(a)); break;
            case 3: same("harvest " + h + " " + k, () -> x.harvest(h, k), () -> m.harvest(h, k)); break;
            case 4: same("harvest " + h, () -> x.harvest(h, -1), () -> m.harvest(h, -1)); break;
            case 5: same("loss " + h, () -> x.loss(h), () -> m.loss(h)); break;
            case 6: same("trial " + n, () -> x.trial(n, flag), () -> m.trial(n, flag)); break;
            default: same("span " + n, () -> x.span(n, flag), () -> m.span(n, flag));
        }
    }

    private void reckon() {
        int a = climber();
        int b = ledge();
        int w = near(9);
        switch (dice.nextInt(7)) {
            case 0: same("lasts", () -> x.lasts(b, w), () -> m.lasts(b, w)); break;
            case 1: same("enough", () -> x.enough(a, b), () -> m.enough(a, b)); break;
            case 2: same("shifts", () -> x.shifts(a, b), () -> m.shifts(a, b)); break;
            case 3: same("who", x::who, m::who); break;
            case 4: same("trips", () -> x.trips(a, b), () -> m.trips(a, b)); break;
            case 5: same("recovers", () -> x.recovers(a, b), () -> m.recovers(a, b)); break;
            default: same("lightest", x::lightest, m::lightest);
        }
    }

    private void signs() {
        int set = dice.nextInt(3) == 0 ? dice.nextInt() : 1 << upTo(13) | 1 << upTo(11);
        int n = near(12);
        int e = near(5);
        int big = near(dice.nextInt(4) == 0 ? 9999 : 90);
        boolean flag = dice.nextBoolean();
        switch (dice.nextInt(10)) {
            case 0: same("pairs", () -> x.pairs(big % 45), () -> m.pairs(big % 45)); break;
            case 1: same("jerks", () -> x.jerks(n, e), () -> m.jerks(n, e)); break;
            case 2: same("safe", () -> x.safe(set, e), () -> m.safe(set, e)); break;
            case 3: same("heard", () -> x.heard(set, n, e), () -> m.heard(set, n, e)); break;
            case 4: same("round", () -> x.round(set), () -> m.round(set)); break;
            case 5: same("split", () -> x.split(flag), () -> m.split(flag)); break;
            case 6: same("share", () -> x.share(big, flag), () -> m.share(big, flag)); break;
            case 7: same("rests", x::rests, m::rests); break;
            case 8: same("how", () -> x.how(big % 99, flag), () -> m.how(big % 99, flag)); break;
            default: same("leave", () -> x.leave(big), () -> m.leave(big));
        }
    }
}
