/** Promises 15 to 17: years by draws, laws that are compared, a new beginning. */
final class DriftPromises extends Promises {
    private static final String PLAIN = "trade plain 2 1;";

    /** Two trades, one who knows the first; laws without witnesses and as told. */
    private static ForgottenCrafts one(String laws, int... draws) {
        return of(PLAIN.repeat(2) + "person 1 0 50;", "witnesses 0;" + laws, draws);
    }

    private static ForgottenCrafts of(String town, String laws, int[] draws) {
        ForgottenCrafts x = of(town, laws);
        x.seed(seedFor(draws));
        return x;
    }

    /** The first person draws the trade to learn, in the one of years by draws that goes by; what it learns then. */
    private static int learns(String town, String laws, int trades, int t) {
        ForgottenCrafts x = of(town, laws, new int[] {100, 0, trades, t});
        x.drift(1, 1);
        return x.person(0, 2);
    }

    // ---- promise 15: its bounds

    static void promise15FewerThanOneYearAndMoreThanNinetyAreOutside(Check c) {
        ForgottenCrafts x = small("");
        refusedBeyond(c, x, OUTSIDE, 1, 90, n -> x.drift(n, 50));
    }

    static void promise15LessThanNoughtAndMoreThanAHundredAreOutside(Check c) {
        ForgottenCrafts x = small("");
        refusedBeyond(c, x, OUTSIDE, 0, 100, q -> x.drift(1, q));
    }

    static void promise15WithoutTradesItIsNot(Check c) {
        ForgottenCrafts x = of("person 1;", "");
        refused(c, x, NOT, () -> x.drift(1, 0));
        refused(c, x, NOT, () -> x.drift(90, 100));
    }

    static void promise15OutsideStandsAheadOfNot(Check c) {
        ForgottenCrafts x = new ForgottenCrafts();
        c.due("no year", x.drift(0, 50), OUTSIDE);
        c.due("91 years", x.drift(91, 50), OUTSIDE);
        c.due("below 0", x.drift(1, -1), OUTSIDE);
        c.due("above 100", x.drift(1, 101), OUTSIDE);
    }

    static void promise15OneYearGoesBy(Check c) {
        ForgottenCrafts x = small("");
        x.drift(1, 0);
        row(c, "year, age", new int[] {x.told(3), x.person(0, 0)}, 1, 21);
    }

    static void promise15NinetyYearsGoBy(Check c) {
        ForgottenCrafts x = small("");
        x.drift(90, 100);
        row(c, "year, who lives", new int[] {x.told(3), x.told(2)}, 90, 15);
    }

    static void promise15WithoutPeopleNothingIsDrawn(Check c) {
        ForgottenCrafts x = of(PLAIN.repeat(2), "");
        x.seed(5);
        c.due("all are dead", x.drift(90, 100), 3);
        row(c, "year, seed", new int[] {x.told(3), seedOf(x)}, 90, 5);
    }

    static void promise15DeadTradesAreTheAnswer(Check c) {
        ForgottenCrafts x = of(PLAIN.repeat(3) + "person 1 1 50;", "");
        c.due("the first, the third", x.drift(1, 0), 5);
        ForgottenCrafts y = of(PLAIN + "person 1 0 50;", "");
        c.due("none", y.drift(1, 0), 0);
    }

    // ---- promise 15: who draws, and when it changes

    static void promise15ADrawBelowQChanges(Check c) {
        ForgottenCrafts x = one("", 100, 49, 2, 1);
        x.drift(1, 50);
        c.due("learns", x.person(0, 2), 1);
    }

    static void promise15ADrawOfQChangesNothing(Check c) {
        ForgottenCrafts x = one("", 100, 50, 2, 1);
        int seed = seedOf(x);
        x.drift(1, 50);
        c.due("learns", x.person(0, 2), NONE);
        c.due("one draw", seedOf(x), afterDraws(seed, 1));
    }

    static void promise15WithNoughtNobodyChangesYetDraws(Check c) {
        ForgottenCrafts x = one("", 100, 0, 2, 1);
        int seed = seedOf(x);
        x.drift(3, 0);
        c.due("learns", x.person(0, 2), NONE);
        c.due("three draws", seedOf(x), afterDraws(seed, 3));
    }

    static void promise15WithAHundredEverybodyWould(Check c) {
        ForgottenCrafts x = one("", 100, 99, 2, 1);
        int seed = seedOf(x);
        x.drift(1, 100);
        c.due("learns", x.person(0, 2), 1);
        c.due("two draws", seedOf(x), afterDraws(seed, 2));
    }

    static void promise15PersonsDrawInOrder(Check c) {
        ForgottenCrafts x = of(PLAIN.repeat(2) + "person 1 0 50;person 1 1 50;", "witnesses 0;", new int[] {100, 99, 100, 0, 2, 0});
        x.drift(1, 50);
        row(c, "learns", new int[] {x.person(0, 2), x.person(1, 2)}, NONE, 0);
    }

    static void promise15WhoLearnsDrawsNothing(Check c) {
        ForgottenCrafts x = one("");
        x.change(0, 1, NONE, NONE);
        x.seed(5);
        x.drift(1, 100);
        c.due("the seed", seedOf(x), 5);
    }

    static void promise15TheDeadDrawNothing(Check c) {
        ForgottenCrafts x = of(PLAIN + "person 69 0 50;", "");
        x.year(1);
        x.seed(5);
        c.due("all are dead", x.drift(9, 100), 1);
        row(c, "seed, who lives", new int[] {seedOf(x), x.told(2)}, 5, 0);
    }

    static void promise15TheFirstAndTheLastTradeMayBeDrawn(Check c) {
        String six = PLAIN.repeat(6);
        c.due("the first", learns(six + "person 1;", "", 6, 0), 0);
        c.due("the last", learns(six + "person 1;", "", 6, 5), 5);
    }

    static void promise15FewerThanItMayGivesUpNothing(Check c) {
        ForgottenCrafts x = one("", 100, 0, 2, 1);
        x.drift(1, 1);
        row(c, "learns, forgets", new int[] {x.person(0, 2), x.person(0, 3)}, 1, NONE);
    }

    static void promise15WhoKnowsNothingGivesUpNothing(Check c) {
        c.due("learns", learns(PLAIN + "person 1;", "holds 1;witnesses 3;", 1, 0), 0);
    }

    static void promise15AsManyAsItMayGivesUpOne(Check c) {
        ForgottenCrafts x = one("holds 1;", 100, 0, 2, 1);
        x.drift(1, 1);
        row(c, "learns, forgets, skill", new int[] {x.person(0, 2), x.person(0, 3), x.skill(0, 0)}, 1, 0, 25);
    }

    static void promise15MoreThanItMayGivesUpOne(Check c) {
        ForgottenCrafts x = of(PLAIN.repeat(3) + "person 1 0 50 1 40;", "holds 1;witnesses 0;", new int[] {100, 0, 3, 2});
        x.drift(1, 1);
        row(c, "learns, forgets", new int[] {x.person(0, 2), x.person(0, 3)}, 2, 0);
    }

    static void promise15TheOneOfLeastLikeIsGivenUp(Check c) {
        String town = PLAIN.repeat(4) + "person 1 0 50 1 40 2 30;likes 0 0 9;likes 0 1 8;likes 0 2 8;";
        ForgottenCrafts x = of(town, "holds 3;witnesses 0;", new int[] {100, 0, 4, 3});
        x.drift(1, 1);
        c.due("of like ones the least", x.person(0, 3), 1);
    }

    static void promise15WhatItKnowsItDoesNotLearn(Check c) {
        c.due("learns", learns(PLAIN.repeat(2) + "person 1 1 50;", "", 2, 1), NONE);
    }

    static void promise15WhatIsForbiddenItDoesNotLearn(Check c) {
        c.due("learns", learns(PLAIN + "trade forbidden 2 1;person 1;", "", 2, 1), NONE);
    }

    static void promise15WithoutWhatIsNeededItDoesNotLearn(Check c) {
        c.due("learns", learns(PLAIN + "trade plain 2 1 needs 0;person 1;", "", 2, 1), NONE);
    }

    static void promise15WithoutWitnessesItDoesNotGiveUpOne(Check c) {
        c.due("none", learns(PLAIN.repeat(2) + "person 1 0 50;person 1;", "holds 1;", 2, 1), NONE);
        c.due("enough", learns(PLAIN.repeat(2) + "person 1 0 50;person 1;person 1;", "holds 1;", 2, 1), 1);
    }

    static void promise15WhatTheNewOneNeedsItDoesNotGiveUp(Check c) {
        c.due("learns", learns(PLAIN + "trade plain 2 1 needs 0;person 1 0 50;", "holds 1;witnesses 0;", 2, 1), NONE);
    }

    static void promise15WhoForgetsDoesNotGiveUpAnother(Check c) {
        ForgottenCrafts x = of("trade plain 1 1;" + PLAIN.repeat(2) + "person 1 1 50;", "holds 1;witnesses 0;fades 1;");
        x.change(0, 0, 1, NONE);
        x.year(1);
        x.seed(seedFor(100, 0, 3, 2));
        x.drift(1, 1);
        row(c, "learns, forgets", new int[] {x.person(0, 2), x.person(0, 3)}, NONE, 1);
    }

    // ---- promise 15: children

    static void promise15WhoDiesInItComesAgainAsAChild(Check c) {
        ForgottenCrafts x = of("trade plain 2 50;" + PLAIN + "person 69 0 70;", "witnesses 0;", new int[] {2, 1});
        x.change(0, 1, 0, NONE);
        c.due("the first is dead", x.drift(1, 0), 1);
        int[] child = {x.told(2), x.person(0, 0), x.person(0, 1), x.person(0, 2), x.person(0, 3), x.person(0, 4), x.person(0, 5), x.skill(0, 1)};
        row(c, "child", child, 1, 0, 1, NONE, NONE, 2, 0, 50);
    }

    static void promise15AChildOfAForbiddenTradeKnowsNothing(Check c) {
        ForgottenCrafts x = of(PLAIN + "trade forbidden 1 1;person 69 0 70;", "", new int[] {100, NONE, 2, 1});
        c.due("both are dead", x.drift(1, 0), 3);
        row(c, "child", new int[] {x.told(2), x.person(0, 0), x.person(0, 1), x.person(0, 4), x.skill(0, 1)}, 1, 0, NONE, 0, 0);
    }

    static void promise15AChildMayKnowWhatItCannotLearnYet(Check c) {
        ForgottenCrafts x = of(PLAIN + "trade plain 2 1 needs 0;person 69;", "", new int[] {100, NONE, 2, 1});
        x.drift(1, 0);
        c.due("skill", x.skill(0, 1), 50);
    }

    static void promise15WhoDoesNotDieComesNotAgain(Check c) {
        ForgottenCrafts x = of(PLAIN + "person 68 0 70;", "");
        x.drift(1, 0);
        row(c, "age, skill", new int[] {x.person(0, 0), x.skill(0, 0)}, 69, 70);
    }

    static void promise15WhoDiedInAnotherYearComesNotAgain(Check c) {
        ForgottenCrafts x = of(PLAIN + "person 69 0 70;person 1;", "");
        x.year(1);
        x.drift(20, 0);
        row(c, "who lives, age", new int[] {x.told(2), x.person(0, 0)}, 2, 70);
    }

    static void promise15ChildrenDrawBehindTheYearInOrder(Check c) {
        ForgottenCrafts x = of(PLAIN.repeat(2) + "person 69;person 1;person 99;", "", new int[] {100, NONE, 100, NONE, 100, NONE, 2, 0, 2, 1});
        int seed = seedOf(x);
        x.drift(1, 0);
        row(c, "the children's", new int[] {x.skill(0, 0), x.skill(0, 1), x.skill(2, 0), x.skill(2, 1)}, 50, 0, 0, 50);
        c.due("five draws", seedOf(x), afterDraws(seed, 5));
    }

    static void promise15WithTheLeastLastAgeThereAreChildrenEachYear(Check c) {
        ForgottenCrafts x = of("trade plain 2 50;person 50 0 90;", "dies 1;");
        x.seed(0);
        x.drift(3, 0);
        row(c, "age, skill, earned", new int[] {x.person(0, 0), x.skill(0, 0), x.person(0, 5)}, 0, 50, 0);
        c.due("six draws", seedOf(x), afterDraws(0, 6));
    }

    static void promise15AChildHasNothingThatComesBack(Check c) {
        ForgottenCrafts x = of("trade back 1 1;trade plain 1 1;person 68 0 10;", "witnesses 0;fades 100;");
        x.change(0, 1, 0, NONE);
        x.year(1);
        x.seed(seedFor(100, NONE, 2, 1));
        x.drift(1, 0);
        x.year(30);
        row(c, "age, skills", new int[] {x.person(0, 0), x.skill(0, 0), x.skill(0, 1)}, 30, 0, 50);
    }

    // ---- promise 16

    static void promise16FewerThanOneYearAndMoreThanNinetyAreOutside(Check c) {
        ForgottenCrafts x = small("");
        refusedBeyond(c, x, OUTSIDE, 1, 90, n -> x.compared(n, 50, 2));
    }

    static void promise16LessThanNoughtAndMoreThanAHundredAreOutside(Check c) {
        ForgottenCrafts x = small("");
        refusedBeyond(c, x, OUTSIDE, 0, 100, q -> x.compared(1, q, 2));
    }

    static void promise16HoldsBeyondOneToSixAreOutside(Check c) {
        ForgottenCrafts x = small("");
        refusedBeyond(c, x, OUTSIDE, 1, 6, h -> x.compared(1, 50, h));
    }

    static void promise16WithoutTradesItIsNot(Check c) {
        ForgottenCrafts x = of("person 1;", "");
        refused(c, x, NOT, () -> x.compared(1, 0, 1));
        refused(c, x, NOT, () -> x.compared(90, 100, 6));
    }

    static void promise16OutsideStandsAheadOfNot(Check c) {
        ForgottenCrafts x = new ForgottenCrafts();
        c.due("no year", x.compared(0, 50, 2), OUTSIDE);
        c.due("above 100", x.compared(1, 101, 2), OUTSIDE);
        c.due("H of 7", x.compared(1, 50, 7), OUTSIDE);
    }

    static void promise16NothingChanges(Check c) {
        ForgottenCrafts x = small("witnesses 1;");
        x.seed(4711);
        x.change(0, 2, 1, NONE);
        x.night(2, 3);
        String before = Check.all(x);
        x.compared(1, 0, 1);
        x.compared(90, 100, 6);
        c.isTrue("nothing changes", Check.all(x).equals(before));
    }

    static void promise16ItIsHowManyAreDeadNotWhich(Check c) {
        ForgottenCrafts x = of(PLAIN.repeat(6) + "person 1 0 50;", "");
        c.due("five", x.compared(1, 0, 2), 5);
        c.due("all of nobody's", of(PLAIN.repeat(6), "").compared(1, 0, 2), 6);
        c.due("none", of(PLAIN + "person 1 0 50;", "").compared(1, 0, 1), 0);
    }

    static void promise16ItIsAsIfAsManyMightBeHeld(Check c) {
        ForgottenCrafts x = of(PLAIN.repeat(2) + "person 1 0 25;", "holds 6;witnesses 0;", new int[] {100, 0, 2, 1});
        c.due("with one the old one goes", x.compared(1, 1, 1), 1);
        c.due("with two it stays", x.compared(1, 1, 2), 0);
        c.due("with six too", x.compared(1, 1, 6), 0);
        c.due("holds as before", x.told(4), 6);
        Check.laws(x, "holds 1;witnesses 0;");
        c.due("whatever the laws hold", x.compared(1, 1, 2), 0);
    }

    static void promise16AllButWhatMayBeHeldIsAsTheLawsTell(Check c) {
        for (int h = 1; h <= 6; h++) {
            String laws = "witnesses 1;fades 40;rusts 9;dies 30;";
            ForgottenCrafts x = small(laws);
            x.seed(4711);
            ForgottenCrafts y = small(laws + "holds " + h + ";");
            y.seed(4711);
            c.due("as if H were " + h, x.compared(60, 80, h), Integer.bitCount(y.drift(60, 80)));
            c.due("the longest", x.compared(90, 100, h), Integer.bitCount(driftOf(laws, h)));
        }
    }

    private static int driftOf(String laws, int h) {
        ForgottenCrafts x = small(laws + "holds " + h + ";");
        x.seed(4711);
        return x.drift(90, 100);
    }

    // ---- promise 17

    /** Much has changed in a town of which much was told. */
    private static ForgottenCrafts changed() {
        ForgottenCrafts x = small("witnesses 1;");
        x.want(0, 3);
        x.make(0, 3);
        x.write(0, 0, 3);
        x.change(0, 2, 1, NONE);
        x.year(3);
        x.keep(1);
        x.change(3, 1, NONE, NONE);
        x.practise(0, 2);
        x.night(1, 1);
        return x;
    }

    static void promise17TheYearItWasIsTheAnswer(Check c) {
        c.due("of a new object", new ForgottenCrafts().begin(), 0);
        ForgottenCrafts x = small("");
        x.year(99);
        x.drift(1, 0);
        c.due("a hundred", x.begin(), 100);
        c.due("then", x.begin(), 0);
    }

    static void promise17TheYearIsNought(Check c) {
        ForgottenCrafts x = changed();
        x.begin();
        c.due("the year", x.told(3), 0);
    }

    static void promise17AllIsAsItWasTold(Check c) {
        ForgottenCrafts x = changed();
        x.begin();
        x.seed(0);
        x.tear();
        x.want(0, 0);
        c.isTrue("as told", Check.all(x).equals(Check.all(small("witnesses 1;"))));
    }

    static void promise17TheDeadLiveAgain(Check c) {
        ForgottenCrafts x = small("");
        x.year(99);
        c.due("nobody", x.told(2), 0);
        x.begin();
        row(c, "as told", new int[] {x.told(2), x.person(2, 0), x.skill(2, 3), x.person(2, 1)}, 15, 68, 80, 3);
    }

    static void promise17NobodyWasAWitnessOrUpByNight(Check c) {
        ForgottenCrafts x = of(PLAIN.repeat(2) + "person 1 0 90;person 1 0 90;", "witnesses 1;");
        x.change(0, 1, 0, NONE);
        x.night(1, 0);
        x.begin();
        row(c, "the other", new int[] {x.person(1, 6), x.person(1, 7)}, 0, 0);
        c.due("a witness", x.change(0, 1, 0, NONE), 2);
        c.due("by night", x.night(1, 0) & ~1, 0);
    }

    static void promise17NothingComesBackThatWasNotToldAsKnown(Check c) {
        ForgottenCrafts x = of("trade back 1 1;trade plain 1 1;person 1;", "witnesses 0;fades 100;");
        x.change(0, 0, NONE, NONE);
        x.year(1);
        x.change(0, 1, 0, NONE);
        x.year(1);
        c.due("gone", x.skill(0, 0), 0);
        x.begin();
        x.year(30);
        c.due("never known", x.skill(0, 0), 0);
    }

    static void promise17LearningBeginsAnew(Check c) {
        ForgottenCrafts x = of(PLAIN + "person 1;", "");
        x.change(0, 0, NONE, NONE);
        x.year(1);
        x.begin();
        c.due("again", x.change(0, 0, NONE, NONE), 0);
        x.year(1);
        c.due("behind one year", x.skill(0, 0), 50);
    }

    static void promise17LawsStay(Check c) {
        ForgottenCrafts x = small("holds 5;witnesses 1;fades 9;rusts 8;dies 90;lent;");
        x.begin();
        row(c, "law", new int[] {x.told(4), x.told(5), x.told(6), x.told(7), x.told(8), x.told(9)}, 5, 1, 9, 8, 90, 1);
    }

    static void promise17WantsStay(Check c) {
        ForgottenCrafts x = changed();
        x.begin();
        c.due("wants", x.trade(0, 6), 3);
    }

    static void promise17WhatWasMadeAndTheBookStay(Check c) {
        ForgottenCrafts x = changed();
        x.begin();
        row(c, "things, makers, entries, wrong", new int[] {x.told(11), x.makers(0), x.told(12), x.judge()}, 1, 5, 1, 0);
    }

    static void promise17ImagesStay(Check c) {
        ForgottenCrafts x = changed();
        x.begin();
        c.due("not kept", x.goBack(0), NOT);
        c.due("kept", x.goBack(1), 1);
        row(c, "year, skill", new int[] {x.told(3), x.skill(0, 2)}, 3, 75);
    }

    static void promise17TheSeedStays(Check c) {
        ForgottenCrafts x = small("");
        x.seed(99);
        x.begin();
        c.due("the seed", x.seed(0), 99);
    }

    static void promise17LikesStayAsTold(Check c) {
        ForgottenCrafts x = of(PLAIN + "person 1;likes 0 0 9;", "");
        x.year(1);
        x.begin();
        c.due("like", x.like(0, 0), 9);
    }
}
