/** Promises 1 and 6 to 31, each with answers worked out by hand: ordinary calls, edges, refusals and their order. */
final class PromiseTests {
    private static final Check CHECK = new Check("PromiseTests");
    private static final int LEAST = Integer.MIN_VALUE, MOST = Integer.MAX_VALUE;
    private static final String TRADES = "trade plain 3 20;trade back 2 10;trade half 4 30 needs 0;trade forbidden 1 99;";
    private static final String PEOPLE = "person 20 0 90 1 60;person 30 1 100;person 68 0 40 3 80;person 10;";

    public static void main(String[] args) {
        newObject();
        questions();
        changeByRoom();
        changeByForgetting();
        changeByLending();
        witnessesAreTheLeast();
        practising();
        nights();
        yearsOfLearning();
        yearsOfForgetting();
        halfStopsAtFifty();
        backComesBack();
        learntAndForgottenAtOnce();
        death();
        drifting();
        comparing();
        beginning();
        wanting();
        changing();
        rings();
        lastHands();
        till();
        making();
        books();
        seedsAndImages();
        CHECK.end();
    }

    private static void due(String call, int got, int want) {
        CHECK.due(call, got, want);
    }

    private static ForgottenCrafts small(String laws) {
        return Check.of(TRADES + PEOPLE, laws);
    }

    private static void newObject() {
        ForgottenCrafts x = new ForgottenCrafts();
        int[] told = {0, 0, 0, 0, 2, 2, 25, 5, 70, 0, 0, 0, 0, 0};
        for (int what = 0; what < told.length; what++) {
            due("new told " + what, x.told(what), told[what]);
        }
        due("told 14", x.told(14), Check.OUTSIDE);
        due("told -1", x.told(-1), Check.OUTSIDE);
        due("fault", x.fault(), Check.NONE);
        due("trade", x.trade(0, 99), Check.UNKNOWN);
        due("person", x.person(0, 99), Check.UNKNOWN);
        due("skill", x.skill(0, 0), Check.UNKNOWN);
        due("year", x.year(99), 0);
        due("begin", x.begin(), 99);
        due("changed", x.changed(Check.NONE), 0);
        due("changed 0", x.changed(0), Check.UNKNOWN);
        due("fits", x.fits(0, 1), 0);
        due("fits", x.fits(1, 1), Check.NONE);
        due("fits", x.fits(1, 2), 0);
        due("drift", x.drift(1, 1), Check.NOT);
        due("compared", x.compared(1, 1, 1), Check.NOT);
        due("goBack", x.goBack(0), Check.NOT);
        due("judge", x.judge(), Check.NONE);
        due("tear", x.tear(), 0);
    }

    private static void questions() {
        ForgottenCrafts x = small("");
        int[] half = {2, 4, 30, 0, 0, 0, 0};
        int[] plain = {0, 3, 20, Check.NONE, 5, 1, 0};
        for (int what = 0; what < 7; what++) {
            due("trade 2 " + what, x.trade(2, what), half[what]);
            due("trade 0 " + what, x.trade(0, what), plain[what]);
        }
        due("trade 0 7", x.trade(0, 7), Check.OUTSIDE);
        due("trade 0 -1", x.trade(0, -1), Check.OUTSIDE);
        due("trade 4 7", x.trade(4, 7), Check.UNKNOWN);
        due("trade -1", x.trade(-1, 0), Check.UNKNOWN);
        int[] first = {20, 0, Check.NONE, Check.NONE, 3, 0, 0, 0};
        int[] last = {10, Check.NONE, Check.NONE, Check.NONE, 0, 0, 0, 0};
        for (int what = 0; what < 8; what++) {
            due("person 0 " + what, x.person(0, what), first[what]);
            due("person 3 " + what, x.person(3, what), last[what]);
        }
        due("person 0 8", x.person(0, 8), Check.OUTSIDE);
        due("person 0 -1", x.person(0, -1), Check.OUTSIDE);
        due("person 4 8", x.person(4, 8), Check.UNKNOWN);
        due("person least", x.person(LEAST, 0), Check.UNKNOWN);
        due("skill", x.skill(0, 1), 60);
        due("skill not known", x.skill(1, 0), 0);
        due("skill t", x.skill(1, 4), Check.UNKNOWN);
        due("skill p", x.skill(4, 0), Check.UNKNOWN);
        due("skill most", x.skill(MOST, MOST), Check.UNKNOWN);
        due("like t", x.like(0, -1), Check.UNKNOWN);
        due("like p", x.like(-1, 0), Check.UNKNOWN);
        ForgottenCrafts y = Check.of(TRADES + PEOPLE + "likes 1 3 99;likes 2 0 4;", "");
        due("like", y.like(1, 3), 99);
        due("like", y.like(2, 0), 4);
        due("like untold", y.like(0, 0), 0);
        due("best of like ones is the least", Check.of(TRADES + "person 1 3 7 1 7;", "").person(0, 1), 1);
        due("who lives", x.told(2), 15);
        due("dead trades", x.told(13), 4);
    }

    private static void changeByRoom() {
        ForgottenCrafts x = small("");
        due("unknown p", x.change(4, 2, 9, 9), Check.UNKNOWN);
        due("unknown l", x.change(0, 4, -1, -1), Check.UNKNOWN);
        due("l NONE", x.change(0, -1, -1, -1), Check.UNKNOWN);
        due("unknown f", x.change(0, 2, 4, -1), Check.UNKNOWN);
        due("f below NONE", x.change(0, 2, -2, -1), Check.UNKNOWN);
        due("unknown lender", x.change(0, 2, 1, 4), Check.UNKNOWN);
        due("lender below NONE", x.change(0, 2, 1, -2), Check.UNKNOWN);
        due("p lends to itself", x.change(0, 2, 1, 0), Check.UNKNOWN);
        due("p lends itself nothing", x.change(0, 2, -1, 0), Check.UNKNOWN);
        due("knows two of two", x.change(0, 2, -1, -1), Check.NOT);
        due("knows it", x.change(0, 1, 0, -1), Check.NOT);
        due("forbidden", x.change(3, 3, -1, -1), Check.NOT);
        due("needs 0", x.change(1, 2, -1, -1), Check.NOT);
        due("nothing given up, yet a lender", x.change(1, 0, -1, 0), Check.NOT);
        due("knows one of two", x.change(1, 0, -1, -1), 0);
        due("learns", x.person(1, 2), 0);
        due("forgets", x.person(1, 3), Check.NONE);
        due("not known yet", x.skill(1, 0), 0);
        due("learns already", x.change(1, 0, -1, -1), Check.NOT);
        due("learns already", x.change(1, 0, 1, -1), Check.NOT);
        due("no witness was asked", x.person(0, 6), 0);
    }

    private static void changeByForgetting() {
        ForgottenCrafts x = small("witnesses 1;holds 4;");
        due("f that l needs", x.change(0, 2, 0, -1), Check.NOT);
        due("f not known", x.change(1, 0, 2, -1), Check.NOT);
        due("not lent", x.change(3, 0, 0, 0), Check.NOT);
        due("fewer than four, yet one is given up", x.change(0, 2, 1, -1), 2);
        due("learns", x.person(0, 2), 2);
        due("forgets", x.person(0, 3), 1);
        due("witness", x.person(1, 6), 1);
        due("no witness", x.person(2, 6), 0);
        due("year 1", x.year(1), 15);
        due("25", x.skill(0, 2), 25);
        due("35", x.skill(0, 1), 35);
        due("nobody was a witness yet", x.person(1, 6), 0);
        ForgottenCrafts y = Check.of("trade plain 1 1;trade plain 9 1;trade plain 1 1;person 1 0 80;person 2;", "witnesses 0;holds 6;fades 1;");
        due("y 1", y.change(0, 1, 0, -1), 0);
        due("9 years", y.year(9), 3);
        due("learnt", y.person(0, 2), Check.NONE);
        due("still forgets", y.person(0, 3), 0);
        due("forgets something", y.change(0, 2, 1, -1), Check.NOT);
        due("gives up nothing", y.change(0, 2, -1, -1), 0);
    }

    private static void changeByLending() {
        ForgottenCrafts x = small("witnesses 0;holds 2;lent;");
        due("lent by one who does not know it", x.change(3, 0, 0, 1), Check.NOT);
        due("lent by one who knows it, what l needs, too", x.change(0, 2, 0, 2), 0);
        due("the lender forgets", x.person(2, 3), 0);
        due("the learner does not", x.person(0, 3), Check.NONE);
        due("the lender forgets something", x.change(3, 0, 3, 2), Check.NOT);
        due("one who learns may lend", x.change(3, 0, 1, 0), 0);
        due("it forgets", x.person(0, 3), 1);
        due("one who forgets may be lent to", x.change(2, 1, 1, 1), 0);
        ForgottenCrafts y = small("witnesses 2;lent;");
        due("neither p nor the lender", y.change(1, 0, 0, 0), 12);
        ForgottenCrafts z = small("witnesses 3;lent;");
        due("two others alone", z.change(1, 0, 0, 0), Check.NOT);
        due("nothing changed", z.person(0, 3), Check.NONE);
        due("nothing changed", z.person(2, 6), 0);
        ForgottenCrafts dead = Check.of(TRADES + "person 69 0 90;person 1;", "witnesses 0;lent;");
        dead.year(1);
        due("the dead do not lend", dead.change(1, 0, 0, 0), Check.NOT);
        due("the dead do not learn", dead.change(0, 1, -1, -1), Check.NOT);
    }

    private static void witnessesAreTheLeast() {
        ForgottenCrafts x = Check.of("trade plain 5 1;trade plain 5 1;" + "person 1 0 50;".repeat(6) + "person 69;person 1;", "witnesses 2;");
        due("1 and 2", x.change(0, 1, 0, -1), 6);
        due("3 and 4, as 0 learns, 2 was one", x.change(1, 1, 0, -1), 24);
        due("5 and 6", x.change(2, 1, 0, -1), 96);
        due("7 alone", x.change(3, 1, 0, -1), Check.NOT);
        due("year", x.year(1), 191);
        due("4 and 5", x.change(3, 1, 0, -1), 48);
        due("7 alone, as 6 is dead", x.change(4, 1, 0, -1), Check.NOT);
    }

    private static void practising() {
        ForgottenCrafts x = small("");
        due("unknown", x.practise(4, 0), Check.UNKNOWN);
        due("unknown", x.practise(0, 4), Check.UNKNOWN);
        due("not known", x.practise(0, 2), Check.NOT);
        due("was 0", x.practise(0, 1), 0);
        due("was 1", x.practise(0, 1), 1);
        due("is 1", x.person(0, 1), 1);
        x.year(1);
        due("10 * 60 / 100", x.person(0, 5), 6);
        due("practised stays", x.skill(0, 1), 60);
        due("the other rusts", x.skill(0, 0), 85);
        due("99 * 80 / 100, cut", x.person(2, 5), 79);
        x.year(1);
        due("dead", x.practise(2, 3), Check.NOT);
        due("the dead practise nothing", x.person(2, 1), Check.NONE);
    }

    private static void nights() {
        ForgottenCrafts x = small("");
        due("unknown", x.night(0, 4), Check.UNKNOWN);
        due("unknown", x.night(-1, 0), Check.UNKNOWN);
        due("not known", x.night(3, 0), Check.NOT);
        // seed 0: the draws of 100 are 0, 68, 88; seen below 30
        due("seen", x.night(0, 0), 1);
        due("5 more", x.skill(0, 0), 95);
        due("forgets it", x.person(0, 3), 0);
        due("worked", x.person(0, 7), 1);
        due("once a year", x.night(0, 1), Check.NOT);
        due("seed", x.seed(0), 12345);
        x.seed(12345);
        due("not seen", x.night(1, 1), 0);
        due("100 at most", x.skill(1, 1), 100);
        due("forgets nothing", x.person(1, 3), Check.NONE);
        due("forbidden ones, too", x.night(2, 3), 0);
        due("85", x.skill(2, 3), 85);
        x.year(1);
        due("nobody worked yet", x.person(0, 7), 0);
        x.seed(0);
        due("seen again", x.night(0, 1), 1);
        due("forgets one already", x.person(0, 3), 0);
        ForgottenCrafts alone = Check.of(TRADES + "person 1 0 5;", "");
        due("alone", alone.night(0, 0), 0);
        due("yet a draw", alone.seed(0), 12345);
    }

    private static void yearsOfLearning() {
        ForgottenCrafts x = Check.of("trade plain 3 1;trade plain 9 1;trade plain 1 1;person 1;person 1;person 1;", "");
        due("0", x.year(0), Check.OUTSIDE);
        due("100", x.year(100), Check.OUTSIDE);
        due("-1", x.year(-1), Check.OUTSIDE);
        for (int p = 0; p < 3; p++) {
            x.change(p, p, -1, -1);
        }
        int[] first = {33, 66, 100, 100};
        int[] second = {11, 22, 33, 44};
        for (int i = 0; i < 4; i++) {
            x.year(1);
            due("of three years", x.skill(0, 0), first[i]);
            due("of nine years", x.skill(1, 1), second[i]);
            due("of one year", x.skill(2, 2), 100);
            due("learns", x.person(0, 2), i < 2 ? 0 : Check.NONE);
            due("practises it", x.person(0, 1), 0);
        }
        x.year(4);
        due("8 of 9", x.skill(1, 1), 88);
        x.year(1);
        due("9 of 9", x.skill(1, 1), 100);
        ForgottenCrafts y = Check.of("trade plain 9 1;person 1;", "");
        y.change(0, 0, -1, -1);
        int[] byNight = {11, 27, 43, 59, 75, 91, 100};
        for (int i = 0; i < 7; i++) {
            y.year(1);
            due("by day and night", y.skill(0, 0), byNight[i]);
            y.night(0, 0);
        }
        due("learnt ahead of its years", y.person(0, 2), Check.NONE);
    }

    private static void yearsOfForgetting() {
        ForgottenCrafts y = Check.of("trade plain 9 10;trade plain 9 0;trade plain 9 1;person 1 0 50 1 49;", "witnesses 0;fades 25;rusts 20;");
        due("begins", y.change(0, 2, 0, -1), 0);
        int[] forgotten = {25, 0, 0};
        int[] rusted = {29, 9, 1};
        int[] forgets = {0, Check.NONE, Check.NONE};
        int[] practises = {0, 2, 2};
        int[] earned = {5, 7, 7};
        for (int i = 0; i < 3; i++) {
            y.year(1);
            due("forgotten", y.skill(0, 0), forgotten[i]);
            due("rusted, 1 at least", y.skill(0, 1), rusted[i]);
            due("learns on", y.skill(0, 2), 11 * (i + 1));
            due("forgets", y.person(0, 3), forgets[i]);
            due("practises the best, if that is gone", y.person(0, 1), practises[i]);
            due("earned", y.person(0, 5), earned[i]);
        }
        y.year(20);
        due("plain does not come back", y.skill(0, 0), 0);
    }

    private static void halfStopsAtFifty() {
        String town = "trade half 9 1;trade plain 9 1;person 1 0 90;person 1 0 50;person 1 0 49;person 1 0 80;person 1 0 51;";
        ForgottenCrafts x = Check.of(town, "witnesses 0;fades 30;rusts 0;");
        for (int p = 0; p < 5; p++) {
            due("begins", x.change(p, 1, 0, -1), 0);
        }
        x.year(1);
        int[] one = {60, 50, 19, 50, 50};
        for (int p = 0; p < 5; p++) {
            due("half " + p, x.skill(p, 0), one[p]);
            due("forgets " + p, x.person(p, 3), p == 0 || p == 2 ? 0 : Check.NONE);
        }
        x.year(1);
        int[] two = {50, 50, 0, 50, 50};
        for (int p = 0; p < 5; p++) {
            due("half " + p, x.skill(p, 0), two[p]);
            due("forgets " + p, x.person(p, 3), Check.NONE);
        }
    }

    private static void backComesBack() {
        String town = "trade back 9 1;trade plain 1 1;trade plain 1 1;person 1 0 10;person 1 0 10 2 9;";
        ForgottenCrafts x = Check.of(town, "witnesses 0;fades 10;rusts 0;");
        due("begins", x.change(0, 1, 0, -1), 0);
        due("begins", x.change(1, 1, 0, -1), 0);
        x.year(1);
        due("gone in year 0", x.skill(0, 0), 0);
        x.year(8);
        due("8 years behind", x.skill(0, 0), 0);
        x.year(1);
        due("9 years behind", x.skill(0, 0), 1);
        due("two are known", x.skill(1, 0), 0);
        Check.laws(x, "holds 3;witnesses 0;");
        x.year(1);
        due("as soon as there is room", x.skill(1, 0), 1);
        x.begin();
        x.year(20);
        due("never gone", x.skill(0, 0), 10);
        ForgottenCrafts y = Check.of("trade back 9 1;trade back 2 1;person 1 0 10;", "witnesses 0;fades 10;");
        y.change(0, 1, 0, -1);
        y.year(3);
        due("learnt again", y.change(0, 0, -1, -1), 0);
        y.year(9);
        due("learnt", y.skill(0, 0), 100);
        due("forgotten again", y.change(0, 1, 0, -1), Check.NOT);
    }

    private static void learntAndForgottenAtOnce() {
        ForgottenCrafts x = Check.of("trade plain 4 1;person 1;person 1;person 1;", "fades 10;");
        x.change(0, 0, -1, -1);
        x.year(1);
        due("25", x.skill(0, 0), 25);
        due("seen", x.night(0, 0), 1);
        due("learns", x.person(0, 2), 0);
        due("forgets", x.person(0, 3), 0);
        x.year(1);
        due("30 - 10 + 25", x.skill(0, 0), 45);
        x.year(2);
        due("the fourth year", x.skill(0, 0), 100);
        due("learns", x.person(0, 2), Check.NONE);
        due("forgets", x.person(0, 3), 0);
    }

    private static void death() {
        ForgottenCrafts x = Check.of(TRADES + "person 69 0 50 1 50;person 68 1 90;person 99 3 10;", "witnesses 0;");
        x.change(0, 2, 1, -1);
        due("who lives", x.told(2), 7);
        due("year", x.year(1), 2);
        int[] dead = {70, Check.NONE, Check.NONE, Check.NONE, 0, 10, 0, 0};
        for (int what = 0; what < 8; what++) {
            due("dead person " + what, x.person(0, what), dead[what]);
        }
        due("100 years", x.person(2, 0), 100);
        due("it earned", x.person(2, 5), 9);
        due("dead trades", x.told(13), 13);
        due("who knows", x.trade(1, 4), 2);
        due("year", x.year(1), 0);
        due("all are dead", x.told(13), 15);
        x.year(99);
        due("age stays", x.person(1, 0), 70);
        due("the year", x.told(3), 101);
    }

    private static void drifting() {
        ForgottenCrafts x = small("");
        due("0", x.drift(0, 50), Check.OUTSIDE);
        due("91", x.drift(91, 50), Check.OUTSIDE);
        due("q -1", x.drift(1, -1), Check.OUTSIDE);
        due("q 101", x.drift(1, 101), Check.OUTSIDE);
        due("OUTSIDE ahead of NOT", new ForgottenCrafts().drift(0, 0), Check.OUTSIDE);
        // a draw for each of four people, though none is below 0
        due("no change", x.drift(1, 0), 4);
        int seed = 0;
        for (int i = 0; i < 4; i++) {
            seed = (int) ((seed * 1103515245L + 12345L) % 2147483648L);
        }
        due("four draws", x.seed(0), seed);
        // draws from seed 0 of 2 trades: 0, 0, 0, 1: the first dies, comes again with trade 0
        ForgottenCrafts y = Check.of("trade plain 1 10;trade forbidden 1 10;person 69 1 70;", "");
        due("child of trade 0", y.drift(1, 0), 2);
        due("age", y.person(0, 0), 0);
        due("earned", y.person(0, 5), 0);
        due("skill", y.skill(0, 0), 50);
        due("practises", y.person(0, 1), 0);
        due("lives", y.told(2), 1);
        ForgottenCrafts z = Check.of("trade forbidden 1 10;person 69 0 70;person 99 0 70;", "");
        z.year(1);
        due("both dead", z.told(2), 0);
        due("the dead of other years do not come again", z.drift(1, 0), 1);
        due("nobody", z.told(2), 0);
        ForgottenCrafts w = Check.of("trade forbidden 1 10;person 69 0 70;", "");
        due("a child that knows nothing", w.drift(1, 0), 1);
        due("it lives", w.told(2), 1);
        due("practises nothing", w.person(0, 1), Check.NONE);
        // draws from seed 0: of 100 0, of 2 trades 0, which it knows; of 100 88, of 2 trades 1
        ForgottenCrafts v = Check.of("trade plain 2 1;trade plain 2 1;person 1 0 50;", "witnesses 0;holds 1;");
        v.drift(1, 1);
        due("what it knows it does not learn", v.person(0, 2), Check.NONE);
        v.drift(1, 89);
        due("learns the other", v.person(0, 2), 1);
        due("gives up what it knew", v.person(0, 3), 0);
        due("25", v.skill(0, 0), 25);
        int kept = v.seed(0);
        v.seed(kept);
        v.drift(1, 100);
        due("who learns draws nothing", v.seed(0), kept);
    }

    private static void comparing() {
        ForgottenCrafts x = small("witnesses 1;");
        x.seed(4711);
        String before = Check.all(x);
        due("n", x.compared(0, 1, 1), Check.OUTSIDE);
        due("n", x.compared(91, 1, 1), Check.OUTSIDE);
        due("q", x.compared(1, 101, 1), Check.OUTSIDE);
        due("q", x.compared(1, -1, 1), Check.OUTSIDE);
        due("h", x.compared(1, 1, 0), Check.OUTSIDE);
        due("h", x.compared(1, 1, 7), Check.OUTSIDE);
        due("OUTSIDE ahead of NOT", new ForgottenCrafts().compared(1, 1, 7), Check.OUTSIDE);
        for (int h = 1; h <= 6; h++) {
            int tried = x.compared(60, 80, h);
            CHECK.isTrue("nothing changes", Check.all(x).equals(before));
            ForgottenCrafts y = small("witnesses 1;holds " + h + ";");
            y.seed(4711);
            due("as if H were " + h, tried, Integer.bitCount(y.drift(60, 80)));
        }
    }

    private static void beginning() {
        ForgottenCrafts x = small("witnesses 0;");
        x.want(0, 3);
        x.make(0, 3);
        x.write(0, 0, 3);
        String told = Check.all(x);
        x.change(0, 2, 1, -1);
        x.night(2, 3);
        x.practise(0, 1);
        x.drift(30, 60);
        x.keep(1);
        x.seed(0);
        Check.feed(x, "holds");
        due("the year it was", x.begin(), 30);
        due("the text stays", x.told(10), 5);
        x.laws();
        Check.laws(x, "witnesses 0;");
        CHECK.isTrue("all as it was told", Check.all(x).equals(told));
        due("again", x.begin(), 0);
        due("images stay", x.goBack(1), 1);
        due("the year of the image", x.told(3), 30);
        x.seed(99);
        x.begin();
        due("the seed stays", x.seed(0), 99);
    }

    private static void wanting() {
        ForgottenCrafts x = small("");
        due("unknown ahead of outside", x.want(4, 9), Check.UNKNOWN);
        due("unknown", x.want(-1, 0), Check.UNKNOWN);
        due("9", x.want(0, 9), Check.OUTSIDE);
        due("-1", x.want(0, -1), Check.OUTSIDE);
        due("8", x.want(0, 8), 0);
        due("is 8", x.trade(0, 6), 8);
        due("was 8", x.want(0, 1), 8);
    }

    private static void changing() {
        String town = "trade plain 3 1;trade plain 9 1 needs 0;trade forbidden 2 1;person 1 0 49;person 1 0 49;person 1 2 10;person 1 1 50;";
        ForgottenCrafts x = Check.of(town, "");
        due("unknown", x.changed(4), Check.UNKNOWN);
        due("unknown", x.changed(-2), Check.UNKNOWN);
        due("no wants", x.changed(-1), 0);
        due("none", x.changed(0), Check.NONE);
        x.want(0, 1);
        due("3 * 51 / 100, up", x.changed(-1), 2);
        due("the first of like ones has it", x.changed(0), 0);
        due("the second none", x.changed(1), Check.NONE);
        x.want(1, 1);
        due("a master costs nothing", x.changed(-1), 2);
        due("it is the fourth", x.changed(3), 1);
        x.want(1, 2);
        due("who knows what it needs", x.changed(-1), 11);
        due("the least trade first", x.changed(0), 0);
        due("the second changes", x.changed(1), 1);
        x.want(2, 1);
        due("a forbidden one that is known: 2 * 90 / 100, up", x.changed(-1), 13);
        due("all have one", x.changed(2), 2);
        x.want(2, 2);
        due("more than people", x.changed(-1), Check.NONE);
        due("none", x.changed(0), Check.NONE);
        x.want(0, 0);
        x.want(1, 0);
        due("forbidden to all others", x.changed(-1), Check.NONE);
        x.want(2, 0);
        x.want(1, 4);
        due("the third does not know what it needs", x.changed(-1), Check.NONE);
        ForgottenCrafts most = Check.of("trade plain 2 1;".repeat(6) + "person 1 5 60;".repeat(8), "");
        for (int t = 0; t < 6; t++) {
            most.want(t, t < 2 ? 2 : 1);
        }
        due("eight change, but one", most.changed(-1), 14);
        int[] given = {0, 0, 1, 1, 2, 3, 4, 5};
        for (int p = 0; p < 8; p++) {
            due("given " + p, most.changed(p), given[p]);
        }
        for (int t = 0; t < 6; t++) {
            most.want(t, 8);
        }
        due("48 of eight", most.changed(-1), Check.NONE);
        for (int t = 0; t < 6; t++) {
            most.want(t, t == 5 ? 8 : 0);
        }
        due("eight of eight", most.changed(-1), 0);
        ForgottenCrafts dead = Check.of("trade plain 1 1;person 69 0 90;person 5;", "");
        dead.year(1);
        dead.want(0, 1);
        due("the dead are given nothing", dead.changed(-1), 1);
        due("none", dead.changed(0), Check.NONE);
        due("the living", dead.changed(1), 0);
    }

    private static void rings() {
        String two = "trade plain 1 1;trade plain 1 1;person 1 0 50;person 1 1 50;person 1 0 50;person 1 1 50;";
        ForgottenCrafts x = Check.of(two + "likes 0 1 5;likes 1 0 6;likes 2 1 5;likes 3 0 6;", "");
        due("what", x.ring(6), Check.OUTSIDE);
        due("what", x.ring(-1), Check.OUTSIDE);
        int[] best = {22, 4, 0, 1, 2, 3};
        for (int what = 0; what < 6; what++) {
            due("ring " + what, x.ring(what), best[what]);
        }
        ForgottenCrafts like = Check.of(two + "likes 0 1 5;likes 1 0 6;likes 2 1 5;likes 2 0 5;", "");
        int[] first = {11, 2, 0, 1, Check.NONE, Check.NONE};
        for (int what = 0; what < 6; what++) {
            due("ring of two " + what, like.ring(what), first[what]);
        }
        like.change(0, 1, -1, -1);
        due("who learns is in none", like.ring(0), 0);
        due("none", like.ring(1), 0);
        due("none", like.ring(2), Check.NONE);
        ForgottenCrafts forbidden = Check.of("trade plain 1 1;trade forbidden 1 1;person 1 0 50;person 1 1 50;likes 0 1 5;likes 1 0 6;", "");
        due("a forbidden one is in none", forbidden.ring(0), 0);
        ForgottenCrafts nobody = Check.of("trade plain 1 1;trade plain 1 1;person 1 0 50;person 1;likes 0 1 5;likes 1 0 6;", "");
        due("who knows nothing is in none", nobody.ring(0), 0);
        ForgottenCrafts same = Check.of("trade plain 1 1;trade plain 1 1;person 1 0 50;person 1 1 50;likes 0 1 5;", "");
        due("all gain", same.ring(0), 0);
        ForgottenCrafts least = Check.of("trade plain 1 1;trade plain 1 1;trade plain 1 1;person 1 1 50 2 50;person 1 0 50;likes 0 0 9;likes 0 1 3;likes 0 2 3;likes 1 1 4;likes 1 2 90;", "");
        due("of like ones the least is given up", least.ring(0), 10);
    }

    private static void lastHands() {
        ForgottenCrafts x = small("");
        due("unknown", x.lastHand(4, 2), Check.UNKNOWN);
        due("outside", x.lastHand(0, 2), Check.OUTSIDE);
        due("outside", x.lastHand(0, -1), Check.OUTSIDE);
        due("two know it", x.lastHand(0, 0), Check.NONE);
        due("nobody knows it", x.lastHand(2, 1), Check.NONE);
        due("the third", x.lastHand(3, 0), 2);
        due("99 * 2", x.lastHand(3, 1), 198);
        Check.laws(x, "dies 60;");
        due("0 at least", x.lastHand(3, 1), 0);
        x.year(1);
        due("dead", x.lastHand(3, 0), Check.NONE);
    }

    private static void till() {
        ForgottenCrafts x = small("");
        due("unknown", x.till(4), Check.UNKNOWN);
        due("no master", x.till(2), 0);
        String before = Check.all(x);
        due("till it dies", x.till(0), 50);
        due("till the second dies, as the first rusts", x.till(1), 40);
        due("till the third dies", x.till(3), 2);
        CHECK.isTrue("nothing changes", Check.all(x).equals(before));
        x.change(1, 0, -1, -1);
        due("learners learn on", x.till(0), 50);
        x.practise(0, 1);
        due("the first rusts below 50 behind 9, the second behind 11 more than its 3", x.till(0), 14);
        Check.laws(x, "rusts 41;");
        due("49 behind one, though learnt behind three", x.till(0), 1);
    }

    private static void making() {
        ForgottenCrafts x = small("");
        due("unknown", x.make(4, 0), Check.UNKNOWN);
        due("outside", x.make(0, 0), Check.OUTSIDE);
        due("outside", x.make(0, 101), Check.OUTSIDE);
        due("no thing", x.makers(0), Check.UNKNOWN);
        due("made", x.make(0, 40), 1);
        due("made", x.make(1, 61), 2);
        due("no less", x.makers(0), 5);
        due("less", x.makers(1), 2);
        due("no third", x.makers(2), Check.UNKNOWN);
        due("no thing", x.makers(-1), Check.UNKNOWN);
        due("m", x.fits(9, 0), Check.OUTSIDE);
        due("m", x.fits(-1, 0), Check.OUTSIDE);
        due("what", x.fits(1, 3), Check.OUTSIDE);
        due("what", x.fits(1, -1), Check.OUTSIDE);
        int[][] fits = {{0, -1, 0}, {0, -1, 0}, {2, 2, 333333}, {3, 2, 750000}, {1, 15, 1000000}, {0, -1, 0}, {0, -1, 0}, {0, -1, 0}, {0, -1, 0}};
        for (int m = 0; m <= 8; m++) {
            for (int what = 0; what < 3; what++) {
                due("fits " + m + " " + what, x.fits(m, what), fits[m][what]);
            }
        }
        x.year(2);
        due("the third is dead", x.makers(0), 1);
        due("of three sets", x.fits(2, 2), 333333);
        for (int i = 3; i <= 12; i++) {
            due("made", x.make(0, 100), i);
        }
        due("full", x.make(0, 100), Check.FULL);
        due("outside ahead of full", x.make(0, 101), Check.OUTSIDE);
        x.write(0, 0, 0);
        due("tear", x.tear(), 13);
        due("nothing made", x.told(11), 0);
        due("no book", x.told(12), 0);
        due("no thing", x.makers(0), Check.UNKNOWN);
        due("the empty set fits", x.fits(0, 0), 1);
    }

    private static void books() {
        ForgottenCrafts x = small("");
        due("unknown", x.write(0, 4, 101), Check.UNKNOWN);
        due("unknown", x.write(4, 0, 0), Check.UNKNOWN);
        due("outside", x.write(0, 0, 101), Check.OUTSIDE);
        due("outside", x.write(0, 0, -1), Check.OUTSIDE);
        due("empty", x.judge(), Check.NONE);
        due("right", x.write(0, 0, 90), 1);
        due("right", x.write(3, 3, 0), 2);
        due("right", x.write(2, 3, 80), 3);
        due("none is wrong", x.judge(), Check.NONE);
        due("wrong", x.write(0, 1, 59), 4);
        due("wrong", x.write(1, 1, 99), 5);
        due("the first", x.judge(), 3);
        due("told", x.told(12), 5);
        x.practise(0, 1);
        x.year(1);
        due("now", x.judge(), 0);
        for (int i = 6; i <= 40; i++) {
            due("write", x.write(0, 0, 0), i);
        }
        due("full", x.write(0, 0, 0), Check.FULL);
        due("outside ahead of full", x.write(0, 0, 101), Check.OUTSIDE);
        due("tear", x.tear(), 40);
        due("judge", x.judge(), Check.NONE);
    }

    private static void seedsAndImages() {
        ForgottenCrafts x = small("witnesses 1;");
        due("seed", x.seed(MOST), 0);
        due("outside", x.seed(-1), Check.OUTSIDE);
        due("outside", x.seed(LEAST), Check.OUTSIDE);
        due("seed", x.seed(7), MOST);
        due("unknown", x.keep(2), Check.UNKNOWN);
        due("unknown", x.keep(-1), Check.UNKNOWN);
        due("unknown", x.goBack(2), Check.UNKNOWN);
        due("unknown", x.goBack(-1), Check.UNKNOWN);
        due("not kept", x.goBack(1), Check.NOT);
        x.change(0, 2, 1, -1);
        x.night(2, 3);
        x.drift(3, 50);
        x.change(3, 1, -1, -1);
        x.night(0, 0);
        String kept = Check.all(x);
        due("keep", x.keep(1), 1);
        due("the other is not kept", x.goBack(0), Check.NOT);
        x.drift(50, 90);
        due("keep", x.keep(0), 1);
        String later = Check.all(x);
        due("go back", x.goBack(1), 1);
        CHECK.isTrue("as it was kept", Check.all(x).equals(kept));
        x.drift(50, 90);
        CHECK.isTrue("it goes on alike", Check.all(x).equals(later));
        due("go back again", x.goBack(1), 1);
        CHECK.isTrue("an image stays", Check.all(x).equals(kept));
        x.want(0, 2);
        Check.laws(x, "holds 4;");
        x.goBack(0);
        due("wants are no part of it", x.trade(0, 6), 2);
        due("laws neither", x.told(4), 4);
    }
}
