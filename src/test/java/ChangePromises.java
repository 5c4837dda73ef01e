/** Promises 11 to 13: who may change to what, what is practised by day and by night. */
final class ChangePromises extends Promises {
    /** A trade of five years; so long nothing that is learnt comes between. */
    private static final String PLAIN = "trade plain 5 1;";

    /** A change of the first person that is refused as NOT, and changes nothing. */
    private static void not(Check c, String town, String laws, int learn, int f, int lender) {
        ForgottenCrafts x = of(town, laws);
        refused(c, x, NOT, () -> x.change(0, learn, f, lender));
    }

    // ---- promise 11: UNKNOWN

    static void promise11APersonThatThereIsNotIsUnknown(Check c) {
        ForgottenCrafts x = small("");
        refusedBeyond(c, x, UNKNOWN, 0, 3, p -> x.change(p, 2, NONE, NONE));
    }

    static void promise11ATradeToLearnThatThereIsNotIsUnknown(Check c) {
        ForgottenCrafts x = small("");
        refusedBeyond(c, x, UNKNOWN, 0, 3, learn -> x.change(3, learn, NONE, NONE));
    }

    static void promise11ATradeToForgetThatThereIsNotIsUnknown(Check c) {
        ForgottenCrafts x = small("");
        refusedBeyond(c, x, UNKNOWN, NONE, 3, f -> x.change(0, 2, f, NONE));
    }

    static void promise11ALenderThatThereIsNotIsUnknown(Check c) {
        ForgottenCrafts x = small("lent;");
        refusedBeyond(c, x, UNKNOWN, NONE, 3, lender -> x.change(0, 2, 1, lender));
    }

    static void promise11ThePersonItselfIsAnUnknownLender(Check c) {
        ForgottenCrafts x = of(PLAIN.repeat(2) + "person 1 0 50;", "lent;witnesses 0;");
        refused(c, x, UNKNOWN, () -> x.change(0, 1, 0, 0));
        refused(c, x, UNKNOWN, () -> x.change(0, 1, NONE, 0));
    }

    static void promise11UnknownStandsAheadOfNot(Check c) {
        ForgottenCrafts x = small("");
        c.due("a forbidden one, an unknown one", x.change(0, 3, 4, NONE), UNKNOWN);
        c.due("a known one, an unknown lender", x.change(0, 0, 1, 4), UNKNOWN);
        c.due("a known one alone", x.change(0, 0, 1, NONE), NOT);
    }

    // ---- promise 11: what is learnt

    static void promise11TheDeadLearnNothing(Check c) {
        ForgottenCrafts x = of(PLAIN + "person 69;person 1;", "");
        x.year(1);
        refused(c, x, NOT, () -> x.change(0, 0, NONE, NONE));
        c.due("the living", x.change(1, 0, NONE, NONE), 0);
    }

    static void promise11WhoLearnsMayNotBeginAnother(Check c) {
        ForgottenCrafts x = of(PLAIN + PLAIN + "person 1;", "");
        x.change(0, 0, NONE, NONE);
        refused(c, x, NOT, () -> x.change(0, 1, NONE, NONE));
        refused(c, x, NOT, () -> x.change(0, 0, NONE, NONE));
    }

    static void promise11WhoHasLearntMayBeginAnother(Check c) {
        ForgottenCrafts x = of("trade plain 1 1;" + PLAIN + "person 1;", "");
        x.change(0, 0, NONE, NONE);
        x.year(1);
        c.due("another", x.change(0, 1, NONE, NONE), 0);
    }

    static void promise11WhatIsKnownWithSkillOneIsNotLearnt(Check c) {
        not(c, PLAIN + "person 1 0 1;", "holds 6;", 0, NONE, NONE);
    }

    static void promise11WhatIsForbiddenIsNotLearnt(Check c) {
        not(c, "trade forbidden 1 1;person 1;", "", 0, NONE, NONE);
    }

    static void promise11WhatItNeedsMustBeKnown(Check c) {
        not(c, PLAIN + "trade plain 5 1 needs 0;person 1;", "", 1, NONE, NONE);
    }

    static void promise11WhatItNeedsMayBeKnownWithSkillOne(Check c) {
        ForgottenCrafts x = of(PLAIN + "trade plain 5 1 needs 0;person 1 0 1;", "");
        c.due("change", x.change(0, 1, NONE, NONE), 0);
    }

    static void promise11WhatIsLearntIsNotKnownAheadOfAYear(Check c) {
        ForgottenCrafts x = small("");
        c.due("change", x.change(3, 0, NONE, NONE), 0);
        row(c, "then", new int[] {x.person(3, 2), x.skill(3, 0), x.person(3, 4), x.person(3, 1)}, 0, 0, 0, NONE);
    }

    // ---- promise 11: NONE is given up

    static void promise11NothingIsGivenUpByOneWhoKnowsFewerThanItMay(Check c) {
        c.due("none of one", of(PLAIN + "person 1;", "holds 1;").change(0, 0, NONE, NONE), 0);
        c.due("one of two", of(PLAIN + PLAIN + "person 1 1 50;", "").change(0, 0, NONE, NONE), 0);
        String five = PLAIN.repeat(6) + "person 1 1 1 2 1 3 1 4 1 5 1;";
        c.due("five of six", of(five, "holds 6;").change(0, 0, NONE, NONE), 0);
    }

    static void promise11WhoKnowsAsManyAsItMayMustGiveUpOne(Check c) {
        not(c, PLAIN + PLAIN + "person 1 1 50;", "holds 1;", 0, NONE, NONE);
        not(c, PLAIN.repeat(3) + "person 1 1 50 2 1;", "", 0, NONE, NONE);
    }

    static void promise11WhoKnowsMoreThanItMayMustGiveUpOne(Check c) {
        not(c, PLAIN.repeat(3) + "person 1 1 50 2 50;", "holds 1;", 0, NONE, NONE);
    }

    static void promise11WithNothingGivenUpThereIsNoWitness(Check c) {
        ForgottenCrafts x = of(PLAIN + "person 1;person 1;", "witnesses 3;");
        c.due("change", x.change(0, 0, NONE, NONE), 0);
        row(c, "then", new int[] {x.person(0, 2), x.person(0, 3), x.person(1, 6)}, 0, NONE, 0);
        ForgottenCrafts enough = of(PLAIN + "person 1;person 1;", "witnesses 1;");
        c.due("nor if there were enough", enough.change(0, 0, NONE, NONE), 0);
        c.due("the other", enough.person(1, 6), 0);
    }

    static void promise11WithNothingGivenUpThereIsNoLender(Check c) {
        not(c, PLAIN + "person 1;person 1 0 50;", "lent;witnesses 0;", 0, NONE, 1);
    }

    // ---- promise 11: it begins to FORGET

    static void promise11WhoKnowsFewerMayGiveUpOneToo(Check c) {
        ForgottenCrafts x = of(PLAIN + PLAIN + "person 1 1 50;", "holds 6;witnesses 0;");
        c.due("change", x.change(0, 0, 1, NONE), 0);
        row(c, "then", new int[] {x.person(0, 2), x.person(0, 3), x.skill(0, 1)}, 0, 1, 50);
    }

    static void promise11WhatIsKnownWithSkillOneMayBeGivenUp(Check c) {
        ForgottenCrafts x = of(PLAIN + PLAIN + "person 1 1 1;", "witnesses 0;");
        c.due("change", x.change(0, 0, 1, NONE), 0);
    }

    static void promise11WhatIsNotKnownIsNotGivenUp(Check c) {
        not(c, PLAIN.repeat(3) + "person 1 2 50;", "witnesses 0;", 0, 1, NONE);
        not(c, PLAIN.repeat(3) + "person 1 2 50;", "witnesses 0;", 0, 0, NONE);
    }

    static void promise11WhoForgetsMayNotGiveUpAnother(Check c) {
        ForgottenCrafts x = of("trade plain 1 1;" + PLAIN.repeat(2) + "person 1 1 50;", "witnesses 0;fades 1;");
        x.change(0, 0, 1, NONE);
        x.year(1);
        refused(c, x, NOT, () -> x.change(0, 2, 0, NONE));
        refused(c, x, NOT, () -> x.change(0, 2, 1, NONE));
    }

    static void promise11WhoForgetsMayLearnWithNothingGivenUp(Check c) {
        ForgottenCrafts x = of("trade plain 1 1;" + PLAIN.repeat(2) + "person 1 1 50;", "holds 3;witnesses 0;fades 1;");
        x.change(0, 0, 1, NONE);
        x.year(1);
        c.due("change", x.change(0, 2, NONE, NONE), 0);
        c.due("still forgets", x.person(0, 3), 1);
    }

    static void promise11WhatTheNewOneNeedsIsNotGivenUp(Check c) {
        not(c, PLAIN + "trade plain 5 1 needs 0;person 1 0 50;", "witnesses 0;", 1, 0, NONE);
    }

    static void promise11AnotherThanTheNewOneNeedsIsGivenUp(Check c) {
        ForgottenCrafts x = of(PLAIN.repeat(2) + "trade plain 5 1 needs 0;person 1 0 50 1 50;", "witnesses 0;");
        c.due("change", x.change(0, 2, 1, NONE), 0);
    }

    // ---- promise 11: LENT

    static void promise11NothingIsLentWhileLentIsUntold(Check c) {
        not(c, PLAIN + "person 1;person 1 0 50;", "witnesses 0;", 0, 0, 1);
    }

    static void promise11TheLenderForgetsInItsPlace(Check c) {
        ForgottenCrafts x = of(PLAIN + "person 1;person 1 0 50;", "witnesses 0;lent;");
        c.due("change", x.change(0, 0, 0, 1), 0);
        row(c, "then", new int[] {x.person(0, 2), x.person(0, 3), x.person(1, 2), x.person(1, 3)}, 0, NONE, NONE, 0);
    }

    static void promise11WhoKnowsWhatIsLentDoesNotForgetItToo(Check c) {
        ForgottenCrafts x = of(PLAIN.repeat(2) + "person 1 1 50;person 1 1 50;", "witnesses 0;lent;");
        c.due("change", x.change(0, 0, 1, 1), 0);
        row(c, "the lender alone", new int[] {x.person(0, 3), x.person(1, 3)}, NONE, 1);
    }

    static void promise11TheLenderMustKnowIt(Check c) {
        not(c, PLAIN.repeat(2) + "person 1 1 50;person 1 0 50;", "witnesses 0;lent;", 0, 1, 1);
    }

    static void promise11TheLenderMayKnowItWithSkillOne(Check c) {
        c.due("change", of(PLAIN + "person 1;person 1 0 1;", "witnesses 0;lent;").change(0, 0, 0, 1), 0);
    }

    static void promise11TheDeadLendNothing(Check c) {
        ForgottenCrafts x = of(PLAIN + "person 1;person 69 0 50;", "witnesses 0;lent;");
        x.year(1);
        refused(c, x, NOT, () -> x.change(0, 0, 0, 1));
    }

    static void promise11ALenderWhoForgetsLendsNothing(Check c) {
        ForgottenCrafts x = of(PLAIN.repeat(2) + "person 1;person 1 0 50 1 50;person 1;", "witnesses 0;lent;");
        x.change(2, 0, 0, 1);
        refused(c, x, NOT, () -> x.change(0, 0, 0, 1));
        refused(c, x, NOT, () -> x.change(0, 0, 1, 1));
    }

    static void promise11ALenderWhoLearnsMayLend(Check c) {
        ForgottenCrafts x = of(PLAIN.repeat(2) + "person 1;person 1 0 50;", "witnesses 0;lent;");
        x.change(1, 1, NONE, NONE);
        c.due("change", x.change(0, 0, 0, 1), 0);
    }

    static void promise11ALenderMayLendWhatTheNewOneNeeds(Check c) {
        ForgottenCrafts x = of(PLAIN + "trade plain 5 1 needs 0;person 1 0 50;person 1 0 50;", "witnesses 0;lent;");
        c.due("change", x.change(0, 1, 0, 1), 0);
    }

    static void promise11WhoForgetsMayBeLentTo(Check c) {
        ForgottenCrafts x = of(PLAIN.repeat(2) + "person 1 1 50;person 1 0 50;person 1;", "witnesses 0;lent;");
        x.change(2, 1, 1, 0);
        c.due("change", x.change(0, 0, 0, 1), 0);
        row(c, "both forget", new int[] {x.person(0, 3), x.person(1, 3)}, 1, 0);
    }

    static void promise11WhoKnowsAsManyAsItMayMayBeLentTo(Check c) {
        ForgottenCrafts x = of(PLAIN.repeat(2) + "person 1 1 50;person 1 0 50;", "holds 1;witnesses 0;lent;");
        c.due("change", x.change(0, 0, 0, 1), 0);
    }

    // ---- promise 11: witnesses

    /** One who gives up its trade for the other, and as many more as told. */
    private static ForgottenCrafts among(int others, String laws) {
        return of(PLAIN.repeat(2) + "person 1 0 50;" + "person 1 0 50;".repeat(others), laws);
    }

    static void promise11JustAsManyWitnessesAreEnough(Check c) {
        c.due("none", among(0, "witnesses 0;").change(0, 1, 0, NONE), 0);
        c.due("one", among(1, "witnesses 1;").change(0, 1, 0, NONE), 2);
        c.due("two", among(2, "").change(0, 1, 0, NONE), 6);
        c.due("three", among(3, "witnesses 3;").change(0, 1, 0, NONE), 14);
    }

    static void promise11OneWitnessTooFewIsNot(Check c) {
        for (int w = 1; w <= 3; w++) {
            ForgottenCrafts x = among(w - 1, "witnesses " + w + ";");
            refused(c, x, NOT, () -> x.change(0, 1, 0, NONE));
        }
    }

    static void promise11OfMoreTheLeastAreWitnesses(Check c) {
        ForgottenCrafts x = among(7, "");
        c.due("of the fifth", x.change(4, 1, 0, NONE), 3);
        row(c, "witness", new int[] {x.person(0, 6), x.person(1, 6), x.person(2, 6), x.person(4, 6)}, 1, 1, 0, 0);
    }

    static void promise11NeitherTheLearnerNorTheLenderIsAWitness(Check c) {
        ForgottenCrafts x = among(3, "lent;");
        c.due("the two others", x.change(0, 1, 0, 1), 12);
        ForgottenCrafts y = among(2, "lent;");
        refused(c, y, NOT, () -> y.change(0, 1, 0, 1));
    }

    static void promise11TheDeadAreNoWitnesses(Check c) {
        ForgottenCrafts x = of(PLAIN.repeat(2) + "person 1 0 50;person 69;person 1;", "witnesses 1;");
        x.year(1);
        c.due("the third", x.change(0, 1, 0, NONE), 4);
        ForgottenCrafts y = of(PLAIN.repeat(2) + "person 1 0 50;person 69;", "witnesses 1;");
        y.year(1);
        refused(c, y, NOT, () -> y.change(0, 1, 0, NONE));
    }

    static void promise11WhoLearnsIsNoWitness(Check c) {
        ForgottenCrafts x = among(2, "witnesses 1;");
        x.change(1, 1, NONE, NONE);
        c.due("the third", x.change(0, 1, 0, NONE), 4);
    }

    static void promise11NobodyIsAWitnessTwiceAYear(Check c) {
        ForgottenCrafts x = among(3, "witnesses 1;");
        c.due("the second", x.change(0, 1, 0, NONE), 2);
        c.due("the fourth, as the first learns", x.change(2, 1, 0, NONE), 8);
        refused(c, x, NOT, () -> x.change(1, 1, 0, NONE));
    }

    static void promise11AllWhoWereWitnessesInTheYearArePassedOver(Check c) {
        ForgottenCrafts x = among(5, "witnesses 1;");
        x.change(0, 1, 0, NONE);
        x.change(2, 1, 0, NONE);
        c.due("the sixth, as the second and the fourth were", x.change(4, 1, 0, NONE), 32);
    }

    static void promise11AWitnessIsOneAgainInTheNextYear(Check c) {
        ForgottenCrafts x = among(2, "witnesses 1;");
        c.due("the second", x.change(0, 1, 0, NONE), 2);
        x.year(1);
        c.due("the second again", x.change(2, 1, 0, NONE), 2);
    }

    static void promise11AWitnessMayChangeItself(Check c) {
        ForgottenCrafts x = among(2, "witnesses 1;");
        x.change(0, 1, 0, NONE);
        c.due("the third", x.change(1, 1, 0, NONE), 4);
    }

    static void promise11WhoKnowsNothingOrForgetsMayBeAWitness(Check c) {
        ForgottenCrafts x = of(PLAIN.repeat(2) + "person 1 0 50;person 1;person 1 0 50;person 1;", "lent;witnesses 0;");
        x.change(3, 0, 0, 2);
        Check.laws(x, "");
        c.due("both", x.change(0, 1, 0, NONE), 6);
    }

    // ---- promise 12

    static void promise12APersonThatThereIsNotIsUnknown(Check c) {
        ForgottenCrafts x = small("");
        refusedBeyond(c, x, UNKNOWN, 0, 3, p -> x.practise(p, 0));
    }

    static void promise12ATradeThatThereIsNotIsUnknown(Check c) {
        ForgottenCrafts x = small("");
        refusedBeyond(c, x, UNKNOWN, 0, 3, t -> x.practise(0, t));
    }

    static void promise12UnknownStandsAheadOfNot(Check c) {
        ForgottenCrafts x = small("");
        x.year(2);
        c.due("of the dead an unknown one", x.practise(2, 4), UNKNOWN);
    }

    static void promise12WhatIsNotKnownIsNot(Check c) {
        ForgottenCrafts x = of(PLAIN.repeat(2) + "person 1 0 50;person 1;", "");
        refused(c, x, NOT, () -> x.practise(0, 1));
        refused(c, x, NOT, () -> x.practise(1, 0));
    }

    static void promise12WhatIsLearntButNotKnownYetIsNot(Check c) {
        ForgottenCrafts x = small("");
        x.change(3, 0, NONE, NONE);
        refused(c, x, NOT, () -> x.practise(3, 0));
    }

    static void promise12TheDeadPractiseNothing(Check c) {
        ForgottenCrafts x = small("");
        x.year(2);
        refused(c, x, NOT, () -> x.practise(2, 3));
    }

    static void promise12WhatItWasIsTheAnswer(Check c) {
        ForgottenCrafts x = small("");
        c.due("was the best", x.practise(0, 1), 0);
        c.due("the same again", x.practise(0, 1), 1);
        c.due("is", x.person(0, 1), 1);
    }

    static void promise12ATradeOfSkillOneMayBePractised(Check c) {
        ForgottenCrafts x = of(PLAIN.repeat(2) + "person 1 0 50 1 1;", "");
        c.due("was", x.practise(0, 1), 0);
    }

    static void promise12AForbiddenTradeMayBePractised(Check c) {
        ForgottenCrafts x = of(PLAIN + "trade forbidden 1 1;person 1 0 50 1 50;", "");
        c.due("was", x.practise(0, 1), 0);
        c.due("is", x.person(0, 1), 1);
    }

    static void promise12WhatIsBeingForgottenMayBePractised(Check c) {
        ForgottenCrafts x = of(PLAIN.repeat(3) + "person 1 0 50 1 40;", "witnesses 0;");
        x.change(0, 2, 1, NONE);
        c.due("was", x.practise(0, 1), 0);
    }

    // ---- promise 13

    /** One with a trade, as many others who live, and a seed by which the next draw of 100 is as told. */
    private static ForgottenCrafts byNight(int others, int draw) {
        ForgottenCrafts x = of(PLAIN + "person 1 0 50;" + "person 1;".repeat(others), "");
        x.seed(seedFor(100, draw));
        return x;
    }

    static void promise13APersonThatThereIsNotIsUnknown(Check c) {
        ForgottenCrafts x = small("");
        refusedBeyond(c, x, UNKNOWN, 0, 3, p -> x.night(p, 0));
    }

    static void promise13ATradeThatThereIsNotIsUnknown(Check c) {
        ForgottenCrafts x = small("");
        refusedBeyond(c, x, UNKNOWN, 0, 3, t -> x.night(0, t));
    }

    static void promise13UnknownStandsAheadOfNot(Check c) {
        ForgottenCrafts x = small("");
        x.night(0, 0);
        c.due("twice, an unknown one", x.night(0, 4), UNKNOWN);
    }

    static void promise13WhatIsNotKnownIsNot(Check c) {
        ForgottenCrafts x = of(PLAIN.repeat(2) + "person 1 0 50;person 1;", "");
        refused(c, x, NOT, () -> x.night(0, 1));
        refused(c, x, NOT, () -> x.night(1, 0));
    }

    static void promise13TheDeadDoNothingByNight(Check c) {
        ForgottenCrafts x = small("");
        x.year(2);
        refused(c, x, NOT, () -> x.night(2, 3));
    }

    static void promise13TwiceAYearIsNot(Check c) {
        ForgottenCrafts x = of(PLAIN.repeat(2) + "person 1 0 50 1 50;", "");
        x.night(0, 0);
        refused(c, x, NOT, () -> x.night(0, 0));
        refused(c, x, NOT, () -> x.night(0, 1));
    }

    static void promise13AnotherMayInTheSameYear(Check c) {
        ForgottenCrafts x = of(PLAIN + "person 1 0 50;person 1 0 60;", "");
        x.seed(seedFor(100, 99, 100, 99));
        row(c, "nights", new int[] {x.night(0, 0), x.night(1, 0), x.skill(1, 0), x.night(0, 0)}, 0, 0, 65, NOT);
    }

    static void promise13ItMayAgainInTheNextYear(Check c) {
        ForgottenCrafts x = byNight(0, 99);
        x.night(0, 0);
        x.year(1);
        c.due("again", x.night(0, 0), 0);
        c.due("skill", x.skill(0, 0), 60);
    }

    static void promise13SkillIsFiveMore(Check c) {
        ForgottenCrafts x = of(PLAIN + "person 1 0 1;", "");
        x.night(0, 0);
        c.due("skill", x.skill(0, 0), 6);
    }

    static void promise13SkillIsAHundredAtMost(Check c) {
        int[][] skills = {{94, 99}, {95, 100}, {96, 100}, {100, 100}};
        for (int[] skill : skills) {
            ForgottenCrafts x = of(PLAIN + "person 1 0 " + skill[0] + ";", "");
            x.night(0, 0);
            c.due("from " + skill[0], x.skill(0, 0), skill[1]);
        }
    }

    static void promise13WhatComesToAHundredByNightIsLearntTillTheYear(Check c) {
        ForgottenCrafts x = of("trade plain 7 1;person 1;", "");
        x.change(0, 0, NONE, NONE);
        x.year(3);
        for (int i = 0; i < 3; i++) {
            x.year(1);
            x.night(0, 0);
        }
        row(c, "84 by day, 15 by night", new int[] {x.skill(0, 0), x.person(0, 2)}, 99, 0);
        ForgottenCrafts y = of("trade plain 7 1;person 1;", "");
        y.change(0, 0, NONE, NONE);
        y.year(2);
        for (int i = 0; i < 4; i++) {
            y.year(1);
            y.night(0, 0);
        }
        row(c, "84 by day, 20 by night", new int[] {y.skill(0, 0), y.person(0, 2)}, 100, 0);
        y.year(1);
        row(c, "then", new int[] {y.skill(0, 0), y.person(0, 2)}, 100, NONE);
    }

    static void promise13AForbiddenTradeToo(Check c) {
        ForgottenCrafts x = of("trade forbidden 1 1;person 1 0 50;", "");
        c.due("night", x.night(0, 0), 0);
        c.due("skill", x.skill(0, 0), 55);
    }

    static void promise13ADrawBelowTenTimesTheOthersIsSeen(Check c) {
        for (int others = 1; others <= 7; others++) {
            ForgottenCrafts x = byNight(others, 10 * others - 1);
            c.due("seen by " + others, x.night(0, 0), 1);
            c.due("forgets", x.person(0, 3), 0);
        }
    }

    static void promise13ADrawOfTenTimesTheOthersIsNotSeen(Check c) {
        for (int others = 0; others <= 7; others++) {
            ForgottenCrafts x = byNight(others, 10 * others);
            c.due("not seen by " + others, x.night(0, 0), 0);
            c.due("forgets", x.person(0, 3), NONE);
        }
    }

    static void promise13TheDeadSeeNothing(Check c) {
        ForgottenCrafts x = of(PLAIN + "person 1 0 50;person 69;person 1;", "");
        x.year(1);
        x.seed(seedFor(100, 10));
        c.due("one other lives", x.night(0, 0), 0);
    }

    static void promise13ThereIsADrawEvenIfNobodyElseLives(Check c) {
        ForgottenCrafts x = byNight(0, 0);
        int seed = seedOf(x);
        x.night(0, 0);
        c.due("one draw", seedOf(x), afterDraws(seed, 1));
    }

    static void promise13WhatIsRefusedDrawsNothing(Check c) {
        ForgottenCrafts x = small("");
        x.seed(5);
        x.night(3, 0);
        x.night(0, 4);
        c.due("the seed", seedOf(x), 5);
    }

    static void promise13WhoForgetsAlreadyGoesOnWithThat(Check c) {
        ForgottenCrafts x = of(PLAIN.repeat(3) + "person 1 0 50 1 50;person 1;", "witnesses 0;");
        x.change(0, 2, 0, NONE);
        x.seed(seedFor(100, 9));
        c.due("seen", x.night(0, 1), 1);
        c.due("forgets", x.person(0, 3), 0);
    }

    static void promise13WhoIsSeenBeginsToForgetThatTrade(Check c) {
        ForgottenCrafts x = of(PLAIN.repeat(2) + "person 1 0 50 1 40;person 1;", "");
        x.seed(seedFor(100, 0));
        c.due("seen", x.night(0, 1), 1);
        c.due("forgets", x.person(0, 3), 1);
        x.year(1);
        c.due("45 less 25", x.skill(0, 1), 20);
    }
}
