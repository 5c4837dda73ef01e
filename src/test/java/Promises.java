import java.util.function.IntSupplier;
import java.util.function.IntUnaryOperator;

/**
 * What the classes of tests of single promises share. Their tests are static methods, each named after its promise
 * and the one sentence that it holds the class against; PromiseTests runs each by itself.
 */
abstract class Promises {
    static final int NONE = Check.NONE, UNKNOWN = Check.UNKNOWN, OUTSIDE = Check.OUTSIDE, NOT = Check.NOT, FULL = Check.FULL;
    static final int LEAST = Integer.MIN_VALUE, MOST = Integer.MAX_VALUE;

    static final String TRADES = "trade plain 3 20;trade back 2 10;trade half 4 30 needs 0;trade forbidden 1 99;";
    static final String PEOPLE = "person 20 0 90 1 60;person 30 1 100;person 68 0 40 3 80;person 10;";

    static ForgottenCrafts of(String town, String laws) {
        return Check.of(town, laws);
    }

    /** Four trades, one of each kind, and four people, the last of whom knows nothing. */
    static ForgottenCrafts small(String laws) {
        return of(TRADES + PEOPLE, laws);
    }

    /** The call is refused, and what is refused changes nothing. */
    static void refused(Check c, ForgottenCrafts x, int want, IntSupplier call) {
        String before = Check.all(x);
        c.due("the refused call", call.getAsInt(), want);
        c.isTrue("what is refused changes nothing", Check.all(x).equals(before));
    }

    /** The call is refused for the numbers next to those from least to most, and for the farthest ones. */
    static void refusedBeyond(Check c, ForgottenCrafts x, int want, int least, int most, IntUnaryOperator call) {
        String before = Check.all(x);
        for (int n : new int[] {least - 1, most + 1, LEAST, MOST}) {
            c.due("refused with " + n, call.applyAsInt(n), want);
        }
        c.isTrue("what is refused changes nothing", Check.all(x).equals(before));
    }

    static void row(Check c, String what, int[] got, int... want) {
        for (int i = 0; i < Math.max(got.length, want.length); i++) {
            boolean both = i < got.length && i < want.length;
            c.due(what + " " + i, both ? got[i] : got.length, both ? want[i] : want.length);
        }
    }

    static int seedOf(ForgottenCrafts x) {
        int seed = x.seed(0);
        x.seed(seed);
        return seed;
    }

    static int afterDraws(int seed, int draws) {
        long after = seed;
        for (int i = 0; i < draws; i++) {
            after = (after * 1103515245L + 12345L) % 2147483648L;
        }
        return (int) after;
    }

    /** The least seed whose next draws are as told: of n, the number (NONE: any), and so on. */
    static int seedFor(int... draws) {
        for (int seed = 0; seed < 100000000; seed++) {
            boolean fits = true;
            for (int i = 0; i + 1 < draws.length && fits; i += 2) {
                fits = draws[i + 1] == NONE || afterDraws(seed, i / 2 + 1) / 65536 % draws[i] == draws[i + 1];
            }
            if (fits) {
                return seed;
            }
        }
        throw new IllegalArgumentException("no seed has these draws");
    }
}
