import java.util.Random;

/** Any calls with any arguments in any state: nothing is thrown, what is refused or asked changes nothing. */
final class AnyCallTests {
    private static final Check CHECK = new Check("AnyCallTests");
    private static final int[] ODD = {Integer.MIN_VALUE, Integer.MIN_VALUE + 1, -1000000001, -256, -3, -2, 99, 100, 101, 120, 199, 255, 256, 500, 512,
        1000000, Integer.MAX_VALUE - 1, Integer.MAX_VALUE};
    private static final String[] WORDS = {"trade", "person", "likes", "needs", "plain", "back", "half", "forbidden", "holds", "witnesses", "fades",
        "rusts", "dies", "lent", ";", ";", ";", " ", "0", "1", "5", "007", "50", "99", "100", "1000", "x", "A", "\u00e9", "\u0000"};

    private final Random random;
    private final ForgottenCrafts x = new ForgottenCrafts();

    private AnyCallTests(int run) {
        random = new Random(1000 + run);
    }

    public static void main(String[] args) {
        for (int run = 0; run < 400; run++) {
            new AnyCallTests(run).go();
        }
        CHECK.end();
    }

    private int any() {
        int choice = random.nextInt(12);
        if (choice == 0) {
            return ODD[random.nextInt(ODD.length)];
        }
        if (choice == 1) {
            return random.nextInt();
        }
        return random.nextInt(choice < 4 ? 110 : 9) - 1;
    }

    private void go() {
        StringBuilder row = new StringBuilder();
        try {
            for (int i = 0; i < 1000; i++) {
                oneStep(row);
            }
        } catch (RuntimeException thrown) {
            CHECK.isTrue(thrown + " behind" + row, false);
        }
    }

    private void oneStep(StringBuilder row) {
        int choice = random.nextInt(100);
        if (choice == 0) {
            feedTown();
            x.town();
        } else if (choice < 3) {
            feedWords();
            int answer = random.nextBoolean() ? x.town() : x.laws();
            CHECK.isTrue("fault or none", (answer < 0) == (x.fault() >= 0) || answer == Check.NOT);
        } else {
            int which = random.nextInt(29);
            int a = any();
            int b = any();
            int c = any();
            int d = any();
            row.append(' ').append(which).append('(').append(a).append(' ').append(b).append(' ').append(c).append(' ').append(d).append(')');
            boolean look = random.nextInt(5) == 0;
            String before = look ? Check.all(x) : "";
            int answer = call(which, a, b, c, d);
            if (look && (which < 16 || answer <= -1000000001)) {
                CHECK.isTrue("nothing changes: " + answer + " behind" + row, Check.all(x).equals(before));
            }
        }
    }

    private void feedTown() {
        StringBuilder text = new StringBuilder();
        int trades = random.nextInt(7);
        for (int t = 0; t < trades; t++) {
            text.append("trade ").append(WORDS[4 + random.nextInt(4)]).append(1 + random.nextInt(9)).append(' ').append(random.nextInt(100)).append(';');
        }
        int people = random.nextInt(9);
        for (int p = 0; p < people; p++) {
            text.append("person").append(random.nextInt(100));
            for (int t = 0; t < trades; t++) {
                text.append(random.nextBoolean() ? " " + t + " " + (1 + random.nextInt(100)) : "");
            }
            text.append(';');
        }
        Check.feed(x, text.toString());
    }

    private void feedWords() {
        for (int i = random.nextInt(12); i >= 0; i--) {
            Check.feed(x, WORDS[random.nextInt(WORDS.length)]);
        }
    }

    private int call(int which, int a, int b, int c, int d) {
        switch (which) {
            case 0: return x.fault();
            case 1: return x.told(a);
            case 2: return x.trade(a, b);
            case 3: return x.person(a, b);
            case 4: return x.skill(a, b);
            case 5: return x.like(a, b);
            case 6: return x.compared(a, b, c);
            case 7: return x.changed(a);
            case 8: return x.ring(a);
            case 9: return x.lastHand(a, b);
            case 10: return x.till(a);
            case 11: return x.makers(a);
            case 12: return x.fits(a, b);
            case 13: return x.judge();
            case 14: return x.trade(a, 6);
            case 15: return x.fits(a, 2);
            case 16: return x.change(a, b, c, random.nextBoolean() ? d : -1);
            case 17: return x.practise(a, b);
            case 18: return x.night(a, b);
            case 19: return x.year(a);
            case 20: return x.drift(a, b);
            case 21: return x.begin();
            case 22: return x.want(a, b);
            case 23: return x.make(a, b);
            case 24: return x.write(a, b, c);
            case 25: return random.nextInt(4) == 0 ? x.tear() : x.seed(c);
            case 26: return x.keep(a);
            case 27: return x.goBack(a);
            default: return x.feed(a, random.nextLong());
        }
    }
}
