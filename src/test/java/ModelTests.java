import java.util.Random;

/** Runs by a fixed seed in towns of all kinds: every answer against the model's, every question behind every step. */
final class ModelTests {
    private static final Check CHECK = new Check("ModelTests");
    private static final int RUNS = 1500, STEPS = 60;

    private final Random random;
    private final int run;
    private ForgottenCrafts x;
    private Model m = new Model();
    private Model told;
    private final Model[] images = new Model[2];

    private ModelTests(int run) {
        this.run = run;
        this.random = new Random(run);
    }

    public static void main(String[] args) {
        for (int run = 0; run < RUNS; run++) {
            new ModelTests(run).go();
        }
        CHECK.end();
    }

    private int upTo(int n) {
        return random.nextInt(n);
    }

    private boolean often(int percent) {
        return random.nextInt(100) < percent;
    }

    private void due(String call, int got, int want) {
        CHECK.due("run " + run + ", year " + m.year + ": " + call, got, want);
    }

    private void go() {
        tellTown();
        tellLaws();
        compareAll("at first");
        for (int i = 0; i < STEPS; i++) {
            compareAll("behind " + step());
        }
    }

    private void tellTown() {
        StringBuilder text = new StringBuilder();
        m.trades = 1 + upTo(6);
        m.kind = new int[m.trades];
        m.years = new int[m.trades];
        m.worth = new int[m.trades];
        m.needs = new int[m.trades];
        m.wants = new int[m.trades];
        String[] kinds = {"plain", "back", "half", "forbidden"};
        for (int t = 0; t < m.trades; t++) {
            m.kind[t] = upTo(often(60) ? 3 : 4);
            m.years[t] = 1 + upTo(often(50) ? 3 : 9);
            m.worth[t] = upTo(100);
            m.needs[t] = t > 0 && often(30) ? upTo(t) : Model.NONE;
            text.append("trade ").append(kinds[m.kind[t]]).append(m.years[t]).append(' ').append(m.worth[t]);
            text.append(m.needs[t] == Model.NONE ? ";" : "needs" + m.needs[t] + ";");
        }
        int n = upTo(9);
        int most = often(50) ? 30 : 100;
        for (int p = 0; p < n; p++) {
            Model.Person who = new Model.Person(m.trades);
            who.age = upTo(most);
            text.append("person").append(who.age);
            for (int t = 0; t < m.trades; t++) {
                if (often(40)) {
                    who.skill[t] = 1 + upTo(100);
                    text.append(' ').append(t).append(' ').append(who.skill[t]);
                }
            }
            text.append(';');
            who.practises = who.best();
            m.people.add(who);
        }
        for (int p = 0; p < n; p++) {
            for (int t = 0; t < m.trades; t++) {
                if (often(60) && text.length() < 485) {
                    m.people.get(p).like[t] = upTo(often(50) ? 5 : 100);
                    text.append("likes").append(p).append(' ').append(t).append(' ').append(m.people.get(p).like[t]).append(';');
                }
            }
        }
        if (text.length() > 500) {
            m = new Model();
            tellTown();
            return;
        }
        x = new ForgottenCrafts();
        due("town " + text, Check.town(x, text.toString()), n);
        told = m.copy();
    }

    private void tellLaws() {
        StringBuilder text = new StringBuilder();
        m.holds = 2;
        m.witnesses = 2;
        m.fades = 25;
        m.rusts = 5;
        m.dies = 70;
        m.lent = false;
        if (often(70)) {
            m.holds = 1 + upTo(often(70) ? 3 : 6);
            text.append("holds ").append(m.holds).append(';');
        }
        if (often(80)) {
            m.witnesses = upTo(often(80) ? 2 : 4);
            text.append("witnesses ").append(m.witnesses).append(';');
        }
        if (often(60)) {
            m.fades = 1 + upTo(100);
            text.append("fades ").append(m.fades).append(';');
        }
        if (often(60)) {
            m.rusts = upTo(often(50) ? 10 : 101);
            text.append("rusts ").append(m.rusts).append(';');
        }
        if (often(60)) {
            m.dies = 1 + upTo(120);
            text.append("dies ").append(m.dies).append(';');
        }
        if (often(60)) {
            m.lent = true;
            text.append("lent;");
        }
        x.laws();
        Check.laws(x, text.toString());
    }

    private String step() {
        int n = m.people.size();
        int t = upTo(m.trades);
        int p = n == 0 ? 0 : upTo(n);
        int choice = upTo(n == 0 ? 11 : 24);
        if (choice < 4) {
            int years = often(80) ? 1 + upTo(3) : 1 + upTo(30);
            for (int i = 0; i < years; i++) {
                m.passYear();
            }
            due("year " + years, x.year(years), m.living());
            return "year " + years;
        }
        switch (choice) {
            case 4:
                int q = upTo(101);
                int drawn = 1 + upTo(often(70) ? 10 : 90);
                m.drift(drawn, q);
                due("drift " + drawn + " " + q, x.drift(drawn, q), m.dead());
                return "drift " + drawn + " " + q;
            case 5:
                int wanted = upTo(often(80) ? 3 : 9);
                due("want " + t, x.want(t, wanted), m.wants[t]);
                m.wants[t] = wanted;
                return "want " + t + " " + wanted;
            case 6:
                int quality = 1 + upTo(100);
                if (m.made.size() < 12) {
                    m.made.add(new int[] {t, quality});
                    due("make", x.make(t, quality), m.made.size());
                } else {
                    due("make", x.make(t, quality), Check.FULL);
                    due("tear", x.tear(), 12);
                    m.made.clear();
                }
                return "make";
            case 7:
                images[t % 2] = m.copy();
                due("keep", x.keep(t % 2), 1);
                return "keep";
            case 8:
                Model image = images[t % 2];
                due("goBack", x.goBack(t % 2), image == null ? Check.NOT : 1);
                if (image != null) {
                    takePeople(image, image.seed);
                }
                return "goBack";
            case 9:
                if (often(70)) {
                    int seed = upTo(Integer.MAX_VALUE);
                    due("seed", x.seed(seed), (int) m.seed);
                    m.seed = seed;
                    return "seed";
                }
                due("begin", x.begin(), m.year);
                takePeople(told, m.seed);
                return "begin";
            case 10:
                if (often(30)) {
                    tellLaws();
                }
                return "laws";
            case 11:
            case 12:
            case 13:
                due("night " + p + " " + t, x.night(p, t), m.night(p, t));
                return "night " + p + " " + t;
            case 14:
                Model.Person who = m.people.get(p);
                boolean can = who.skill[t] > 0;
                due("practise " + p + " " + t, x.practise(p, t), can ? who.practises : Check.NOT);
                who.practises = can ? t : who.practises;
                return "practise " + p + " " + t;
            default:
                int f = often(25) ? Model.NONE : upTo(m.trades);
                int lender = n < 2 || often(60) ? Model.NONE : (p + 1 + upTo(n - 1)) % n;
                due("change " + p + " " + t + " " + f + " " + lender, x.change(p, t, f, lender), m.change(p, t, f, lender));
                return "change " + p + " " + t + " " + f + " " + lender;
        }
    }

    private void takePeople(Model from, long seed) {
        Model copy = from.copy();
        m.people = copy.people;
        m.year = copy.year;
        m.seed = seed;
    }

    private void compareAll(String when) {
        int n = m.people.size();
        due("lives " + when, x.told(2), m.living());
        due("the year " + when, x.told(3), m.year);
        due("dead " + when, x.told(13), m.dead());
        for (int p = 0; p < n; p++) {
            Model.Person who = m.people.get(p);
            int known = 0;
            for (int t = 0; t < m.trades; t++) {
                due("skill " + p + " " + t + " " + when, x.skill(p, t), who.skill[t]);
                due("like " + p + " " + t, x.like(p, t), who.like[t]);
                known += who.skill[t] > 0 ? 1 << t : 0;
            }
            int[] has = {who.age, who.practises, who.learns, who.forgets, known, who.earned, who.witness ? 1 : 0, who.worked ? 1 : 0};
            for (int what = 0; what < 8; what++) {
                due("person " + p + " " + what + " " + when, x.person(p, what), has[what]);
            }
        }
        for (int t = 0; t < m.trades; t++) {
            due("who knows " + when, x.trade(t, 4), m.set(t, 1));
            due("masters " + when, x.trade(t, 5), m.set(t, 50));
            due("last hand " + when, x.lastHand(t, 0), m.lastHand(t, 0));
            due("its worth " + when, x.lastHand(t, 1), m.lastHand(t, 1));
        }
        if (often(30)) {
            compareSearches(when);
        }
        int seed = x.seed(0);
        due("seed " + when, seed, (int) m.seed);
        x.seed(seed);
    }

    private void compareSearches(String when) {
        int n = m.people.size();
        int[] changed = m.changed();
        due("changed " + when, x.changed(Model.NONE), changed == null ? Model.NONE : changed[n]);
        for (int p = 0; p < n; p++) {
            due("changed " + p + " " + when, x.changed(p), changed == null ? Model.NONE : changed[p]);
        }
        int[] ring = m.ring();
        for (int what = 0; what < 6; what++) {
            due("ring " + what + " " + when, x.ring(what), ring[what]);
        }
        for (int i = 0; i < m.made.size(); i++) {
            due("makers " + i + " " + when, x.makers(i), m.set(m.made.get(i)[0], m.made.get(i)[1]));
        }
        int size = upTo(9);
        for (int what = 0; what < 3; what++) {
            due("fits " + size + " " + what + " " + when, x.fits(size, what), m.fits(size, what));
        }
        int t = upTo(m.trades);
        due("till " + t + " " + when, x.till(t), m.till(t));
        int years = 1 + upTo(20);
        int q = upTo(101);
        int h = 1 + upTo(6);
        due("compared " + when, x.compared(years, q, h), m.compared(years, q, h));
    }
}
