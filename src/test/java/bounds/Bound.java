import java.math.BigInteger;
import java.util.ArrayList;
import java.util.Collections;
import java.util.List;
import java.util.NoSuchElementException;

/** What the tests of bounds share: one count of answers, the document that they quote, and short words for cliffs. */
abstract class Bound {
    static final Class<?> INDEX = IndexOutOfBoundsException.class;
    static final Class<?> ARGUMENT = IllegalArgumentException.class;
    static final Class<?> STATE = IllegalStateException.class;
    static final Class<?> ELEMENT = NoSuchElementException.class;
    static final Class<?> UNSUPPORTED = UnsupportedOperationException.class;
    static final int NONE = -1;
    static final int LEAST = Integer.MIN_VALUE;
    static final int MOST = Integer.MAX_VALUE;

    static final Check c = new Check();
    static final Doc doc = new Doc();

    static String at(int fathom, int roof, int eggs, int age, int birds) {
        return "ledge" + fathom + "roof" + roof + "eggs" + eggs + "age" + age + "birds" + birds;
    }

    static String times(int n, String line) {
        return String.join(";", Collections.nCopies(n, line));
    }

    /** A cliff told in as few texts as the lines need. */
    static LedgeEggs isle(String... lines) {
        LedgeEggs x = new LedgeEggs();
        more(x, lines);
        return x;
    }

    static void more(LedgeEggs x, String... lines) {
        for (String text : texts(lines)) {
            Check.tell(x, text);
            x.isle();
        }
    }

    private static List<String> texts(String... lines) {
        List<String> texts = new ArrayList<>();
        String text = "";
        for (String line : String.join(";", lines).split(";")) {
            boolean full = text.length() + line.length() + 1 > 400 || text.split(";").length == 14;
            if (full) {
                texts.add(text);
                text = "";
            }
            text += (text.isEmpty() ? "" : ";") + line;
        }
        texts.add(text);
        return texts;
    }

    static void law(LedgeEggs x, String... lines) {
        Check.law(x, String.join(";", lines));
    }

    static void due(String what, Object got, Object want) {
        c.due(what, got, want);
    }

    static void refused(String what, Check.Call call, Class<?> want) {
        c.dueThrow(what, call, want);
    }

    /** All numbers below and above what is allowed that a program might mistake. */
    static int[] outside(int least, int most) {
        return new int[] {least - 1, most + 1, LEAST, MOST, -1 - most};
    }

    static void lets(LedgeEggs x, int times) {
        for (int i = 0; i < times; i++) {
            x.let(0, 0, 0);
        }
    }

    /** The n-th DRAW from a SEED on, reckoned in whole numbers that never go round by themselves. */
    static int draw(int seed, int n) {
        BigInteger ring = BigInteger.ONE.shiftLeft(32);
        BigInteger s = BigInteger.valueOf(seed);
        for (int i = 0; i < n; i++) {
            s = s.multiply(BigInteger.valueOf(1103515245)).add(BigInteger.valueOf(12345)).mod(ring);
        }
        return s.shiftRight(16).mod(BigInteger.valueOf(32768)).intValue();
    }

    /** The least SEED from 1 on whose n-th DRAW modulo 100 is rest, and whose first DRAW does not tell WIND 9 by itself. */
    static int seedWith(int n, int rest) {
        for (int seed = 1; seed < 1000000; seed++) {
            if (draw(seed, n) % 100 == rest && (n == 1 || draw(seed, 1) % 10 != 9)) {
                return seed;
            }
        }
        throw new IllegalStateException("no such SEED");
    }
}
