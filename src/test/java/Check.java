/** Counts the answers of one test, or of one class of tests, that are not the due ones; and feeds texts to an object. */
final class Check {
    static final int NONE = ForgottenCrafts.NONE, UNKNOWN = ForgottenCrafts.UNKNOWN, OUTSIDE = ForgottenCrafts.OUTSIDE;
    static final int NOT = ForgottenCrafts.NOT, FULL = ForgottenCrafts.FULL;

    private final String name;
    private int wrong = 0;
    private int asked = 0;

    Check(String name) {
        this.name = name;
    }

    void due(String call, int got, int want) {
        asked++;
        if (got != want) {
            wrong++;
            if (wrong <= 50) {
                System.out.println(name + ": " + call + " answered " + got + ", due is " + want);
            }
        }
    }

    void isTrue(String what, boolean holds) {
        due(what, holds ? 1 : 0, 1);
    }

    /** Takes in what one test, run by itself, has counted; one that asks nothing is wrong. */
    void add(Check test) {
        test.isTrue("it asks something", test.asked > 0);
        asked += test.asked;
        wrong += test.wrong;
    }

    void end() {
        System.out.println(name + ": " + asked + " answers, " + wrong + " wrong");
        if (wrong != 0 || asked == 0) {
            System.exit(1);
        }
    }

    static void feed(ForgottenCrafts x, String text) {
        for (int from = 0; from < text.length(); from += 8) {
            int to = Math.min(text.length(), from + 8);
            long bytes = 0;
            for (int i = from; i < to; i++) {
                bytes = bytes << 8 | text.charAt(i) & 255;
            }
            x.feed(to - from, bytes);
        }
    }

    static int town(ForgottenCrafts x, String text) {
        feed(x, text);
        return x.town();
    }

    static int laws(ForgottenCrafts x, String text) {
        feed(x, text);
        return x.laws();
    }

    static ForgottenCrafts of(String town, String laws) {
        ForgottenCrafts x = new ForgottenCrafts();
        town(x, town);
        laws(x, laws);
        return x;
    }

    /** All that the questions tell, as one text: two objects with the same text are as like as can be asked. */
    static String all(ForgottenCrafts x) {
        StringBuilder all = new StringBuilder();
        for (int what = 0; what <= 13; what++) {
            all.append(x.told(what)).append(' ');
        }
        all.append("fault ").append(x.fault()).append(" judge ").append(x.judge());
        for (int t = 0; t < x.told(0); t++) {
            for (int what = 0; what <= 6; what++) {
                all.append(' ').append(x.trade(t, what));
            }
        }
        for (int p = 0; p < x.told(1); p++) {
            all.append(" /");
            for (int what = 0; what <= 7; what++) {
                all.append(' ').append(x.person(p, what));
            }
            for (int t = 0; t < x.told(0); t++) {
                all.append(' ').append(x.skill(p, t)).append(':').append(x.like(p, t));
            }
        }
        for (int i = 0; i < x.told(11); i++) {
            all.append(" m").append(x.makers(i));
        }
        int seed = x.seed(0);
        x.seed(seed);
        return all.append(" seed ").append(seed).toString();
    }
}
