/** Promises 1 and 6 to 10: a new object, and the questions about trades and people. */
final class QuestionPromises extends Promises {
    private static final String ONE = "trade plain 1 1;", SIX = ONE.repeat(6), EIGHT = "person 1;".repeat(8);

    // ---- promise 1

    static void promise01ThereIsNoTrade(Check c) {
        ForgottenCrafts x = new ForgottenCrafts();
        c.due("trades", x.told(0), 0);
        c.due("trade 0", x.trade(0, 0), UNKNOWN);
        c.due("none is dead", x.told(13), 0);
        c.due("drift", x.drift(1, 1), NOT);
        c.due("compared", x.compared(1, 1, 1), NOT);
    }

    static void promise01ThereIsNoPerson(Check c) {
        ForgottenCrafts x = new ForgottenCrafts();
        c.due("people", x.told(1), 0);
        c.due("who lives", x.told(2), 0);
        c.due("person 0", x.person(0, 0), UNKNOWN);
        c.due("skill", x.skill(0, 0), UNKNOWN);
        c.due("changed 0", x.changed(0), UNKNOWN);
    }

    static void promise01LawsAreAsUntold(Check c) {
        ForgottenCrafts x = new ForgottenCrafts();
        row(c, "law", new int[] {x.told(4), x.told(5), x.told(6), x.told(7), x.told(8), x.told(9)}, 2, 2, 25, 5, 70, 0);
    }

    static void promise01TheYearIsNought(Check c) {
        c.due("the year", new ForgottenCrafts().told(3), 0);
    }

    static void promise01TheTextIsEmpty(Check c) {
        ForgottenCrafts x = new ForgottenCrafts();
        c.due("bytes", x.told(10), 0);
        c.due("town", x.town(), 0);
        c.due("laws", x.laws(), 0);
    }

    static void promise01NothingIsMadeWrittenKept(Check c) {
        ForgottenCrafts x = new ForgottenCrafts();
        c.due("things", x.told(11), 0);
        c.due("entries", x.told(12), 0);
        c.due("judge", x.judge(), NONE);
        c.due("tear", x.tear(), 0);
        c.due("image 0", x.goBack(0), NOT);
        c.due("image 1", x.goBack(1), NOT);
    }

    static void promise01TheSeedIsNought(Check c) {
        c.due("the seed", new ForgottenCrafts().seed(5), 0);
    }

    static void promise01WhatIsCountedOfNobody(Check c) {
        ForgottenCrafts x = new ForgottenCrafts();
        c.due("changed", x.changed(NONE), 0);
        row(c, "ring", new int[] {x.ring(0), x.ring(1), x.ring(2), x.ring(5)}, 0, 0, NONE, NONE);
        row(c, "fits", new int[] {x.fits(0, 0), x.fits(0, 1), x.fits(0, 2), x.fits(1, 0), x.fits(1, 1), x.fits(1, 2)}, 1, 0, 1000000, 0, NONE, 0);
        c.due("year", x.year(99), 0);
        c.due("begin", x.begin(), 99);
    }

    static void promise01TheRefusalsAreFarBelowAllThatIsCounted(Check c) {
        row(c, "NONE and the refusals", new int[] {NONE, UNKNOWN, OUTSIDE, NOT, FULL}, -1, -1000000001, -1000000002, -1000000003, -1000000004);
    }

    static void promise01TwoObjectsShareNothing(Check c) {
        ForgottenCrafts x = small("holds 3;");
        x.seed(9);
        ForgottenCrafts y = new ForgottenCrafts();
        row(c, "the other", new int[] {y.told(0), y.told(1), y.told(4), y.seed(0)}, 0, 0, 2, 0);
    }

    // ---- promise 6

    static void promise06FromNoughtToThirteen(Check c) {
        ForgottenCrafts x = small("");
        c.due("0", x.told(0), 4);
        c.due("13", x.told(13), 4);
        refusedBeyond(c, x, OUTSIDE, 0, 13, x::told);
    }

    static void promise06FullTowns(Check c) {
        ForgottenCrafts x = of(SIX + EIGHT, "");
        row(c, "full", new int[] {x.told(0), x.told(1), x.told(2), x.told(13)}, 6, 8, 255, 63);
    }

    static void promise06WhoLivesIsWithoutTheDead(Check c) {
        ForgottenCrafts x = of(ONE + "person 1;person 69;person 1;", "");
        c.due("all", x.told(2), 7);
        x.year(1);
        c.due("but one", x.told(2), 5);
        c.due("people", x.told(1), 3);
        x.year(99);
        c.due("nobody", x.told(2), 0);
    }

    static void promise06TheYearCountsOn(Check c) {
        ForgottenCrafts x = small("");
        c.due("at first", x.told(3), 0);
        x.year(1);
        c.due("behind one", x.told(3), 1);
        x.year(99);
        c.due("behind a hundred", x.told(3), 100);
    }

    static void promise06BytesOfTheText(Check c) {
        ForgottenCrafts x = small("");
        c.due("none", x.told(10), 0);
        Check.feed(x, " ".repeat(500));
        c.due("all", x.told(10), 500);
    }

    static void promise06ThingsMade(Check c) {
        ForgottenCrafts x = small("");
        for (int i = 0; i < 13; i++) {
            c.due("things", x.told(11), Math.min(12, i));
            x.make(0, 1);
        }
        c.due("things", x.told(11), 12);
    }

    static void promise06EntriesOfTheBook(Check c) {
        ForgottenCrafts x = small("");
        for (int i = 0; i < 41; i++) {
            c.due("entries", x.told(12), Math.min(40, i));
            x.write(0, 0, 1);
        }
        c.due("entries", x.told(12), 40);
    }

    static void promise06ATradeOfSkillOneIsNotDead(Check c) {
        c.due("dead", of(SIX + "person 1 0 1 5 1;", "").told(13), 30);
    }

    static void promise06ATradeThatOnlyTheDeadKnewIsDead(Check c) {
        ForgottenCrafts x = of(ONE + ONE + "person 69 0 50;person 1 1 50;", "");
        c.due("none", x.told(13), 0);
        x.year(1);
        c.due("the first", x.told(13), 1);
    }

    static void promise06WithoutPeopleAllTradesAreDead(Check c) {
        c.due("dead", of(SIX, "").told(13), 63);
    }

    // ---- promise 7

    static void promise07ATradeThatThereIsNotIsUnknown(Check c) {
        ForgottenCrafts x = small("");
        c.due("the last", x.trade(3, 1), 1);
        refusedBeyond(c, x, UNKNOWN, 0, 3, t -> x.trade(t, 0));
        c.due("a seventh", of(SIX, "").trade(6, 0), UNKNOWN);
    }

    static void promise07FromNoughtToSix(Check c) {
        ForgottenCrafts x = small("");
        int[] half = new int[7];
        for (int what = 0; what < 7; what++) {
            half[what] = x.trade(2, what);
        }
        row(c, "half", half, 2, 4, 30, 0, 0, 0, 0);
        refusedBeyond(c, x, OUTSIDE, 0, 6, what -> x.trade(0, what));
    }

    static void promise07UnknownStandsAheadOfOutside(Check c) {
        c.due("both", small("").trade(4, 7), UNKNOWN);
    }

    static void promise07NeedsNone(Check c) {
        c.due("needs", small("").trade(0, 3), NONE);
    }

    static void promise07WhoKnowsFromSkillOne(Check c) {
        ForgottenCrafts x = of(ONE + ONE + "person 1;person 1 0 1;" + "person 1;".repeat(5) + "person 1 0 100;", "");
        c.due("who knows", x.trade(0, 4), 130);
        c.due("nobody", x.trade(1, 4), 0);
    }

    static void promise07MastersFromSkillFifty(Check c) {
        c.due("masters", of(ONE + "person 1 0 49;person 1 0 50;person 1 0 51;", "").trade(0, 5), 6);
    }

    static void promise07TheDeadKnowAndMasterNothing(Check c) {
        ForgottenCrafts x = of(ONE + "person 69 0 90;person 1 0 90;", "");
        x.year(1);
        c.due("who knows", x.trade(0, 4), 2);
        c.due("masters", x.trade(0, 5), 2);
    }

    static void promise07WantsAreNoughtAtFirst(Check c) {
        ForgottenCrafts x = small("");
        c.due("at first", x.trade(1, 6), 0);
        x.want(1, 8);
        c.due("eight", x.trade(1, 6), 8);
        c.due("of another", x.trade(0, 6), 0);
    }

    // ---- promise 8

    static void promise08APersonThatThereIsNotIsUnknown(Check c) {
        ForgottenCrafts x = small("");
        c.due("the last", x.person(3, 0), 10);
        refusedBeyond(c, x, UNKNOWN, 0, 3, p -> x.person(p, 0));
        c.due("a ninth", of(EIGHT, "").person(8, 0), UNKNOWN);
    }

    static void promise08FromNoughtToSeven(Check c) {
        ForgottenCrafts x = small("");
        int[] first = new int[8];
        for (int what = 0; what < 8; what++) {
            first[what] = x.person(0, what);
        }
        row(c, "first", first, 20, 0, NONE, NONE, 3, 0, 0, 0);
        refusedBeyond(c, x, OUTSIDE, 0, 7, what -> x.person(0, what));
    }

    static void promise08UnknownStandsAheadOfOutside(Check c) {
        c.due("both", small("").person(4, 8), UNKNOWN);
    }

    static void promise08PractisesTheBestAtFirst(Check c) {
        c.due("the best", of(SIX + "person 1 1 50 3 51 5 49;", "").person(0, 1), 3);
    }

    static void promise08OfLikeOnesTheLeastIsPractised(Check c) {
        c.due("the least", of(SIX + "person 1 5 51 3 51 4 51 1 50;", "").person(0, 1), 3);
    }

    static void promise08WhoKnowsNothingPractisesNone(Check c) {
        c.due("none", of(SIX + "person 1;", "").person(0, 1), NONE);
    }

    static void promise08LearnsAndForgetsNoneAtFirst(Check c) {
        ForgottenCrafts x = small("witnesses 0;");
        row(c, "at first", new int[] {x.person(0, 2), x.person(0, 3)}, NONE, NONE);
        x.change(0, 2, 1, NONE);
        row(c, "then", new int[] {x.person(0, 2), x.person(0, 3)}, 2, 1);
    }

    static void promise08KnownFromSkillOne(Check c) {
        c.due("known", of(SIX + "person 1 0 1 5 100;", "").person(0, 4), 33);
        c.due("nothing", of(SIX + "person 1;", "").person(0, 4), 0);
    }

    static void promise08EarnedIsNoughtAtFirst(Check c) {
        ForgottenCrafts x = of("trade plain 1 50;person 1 0 100;", "");
        c.due("at first", x.person(0, 5), 0);
        x.year(2);
        c.due("in all", x.person(0, 5), 100);
    }

    static void promise08AWitnessIsOneInItsYearAlone(Check c) {
        ForgottenCrafts x = small("witnesses 1;");
        x.change(0, 2, 1, NONE);
        row(c, "witness", new int[] {x.person(0, 6), x.person(1, 6), x.person(2, 6)}, 0, 1, 0);
        x.year(1);
        c.due("no more", x.person(1, 6), 0);
    }

    static void promise08ANightIsOfItsYearAlone(Check c) {
        ForgottenCrafts x = small("");
        x.night(1, 1);
        row(c, "by night", new int[] {x.person(0, 7), x.person(1, 7)}, 0, 1);
        x.year(1);
        c.due("no more", x.person(1, 7), 0);
    }

    static void promise08OfTheDead(Check c) {
        ForgottenCrafts x = of("trade plain 1 50;" + ONE + "person 69 0 100;person 1;", "witnesses 0;");
        x.change(0, 1, 0, NONE);
        x.night(0, 0);
        x.year(2);
        int[] dead = new int[8];
        for (int what = 0; what < 8; what++) {
            dead[what] = x.person(0, what);
        }
        row(c, "dead", dead, 70, NONE, NONE, NONE, 0, 50, 0, 0);
    }

    // ---- promise 9

    static void promise09APersonThatThereIsNotIsUnknown(Check c) {
        ForgottenCrafts x = small("");
        c.due("the last", x.skill(3, 0), 0);
        refusedBeyond(c, x, UNKNOWN, 0, 3, p -> x.skill(p, 0));
    }

    static void promise09ATradeThatThereIsNotIsUnknown(Check c) {
        ForgottenCrafts x = small("");
        c.due("the last", x.skill(2, 3), 80);
        refusedBeyond(c, x, UNKNOWN, 0, 3, t -> x.skill(2, t));
    }

    static void promise09NoughtIsNotKnown(Check c) {
        c.due("not known", small("").skill(1, 0), 0);
    }

    static void promise09FromOneToAHundred(Check c) {
        ForgottenCrafts x = of(SIX + EIGHT.substring(9) + "person 1 0 1 5 100;", "");
        row(c, "skill", new int[] {x.skill(7, 0), x.skill(7, 4), x.skill(7, 5), x.skill(6, 5)}, 1, 0, 100, 0);
    }

    static void promise09TheDeadHaveNone(Check c) {
        ForgottenCrafts x = of(ONE + "person 69 0 90;", "");
        x.year(1);
        c.due("dead", x.skill(0, 0), 0);
    }

    // ---- promise 10

    static void promise10APersonThatThereIsNotIsUnknown(Check c) {
        ForgottenCrafts x = small("");
        c.due("the last", x.like(3, 0), 0);
        refusedBeyond(c, x, UNKNOWN, 0, 3, p -> x.like(p, 0));
    }

    static void promise10ATradeThatThereIsNotIsUnknown(Check c) {
        ForgottenCrafts x = small("");
        c.due("the last", x.like(0, 3), 0);
        refusedBeyond(c, x, UNKNOWN, 0, 3, t -> x.like(0, t));
    }

    static void promise10UntoldIsNought(Check c) {
        ForgottenCrafts x = of(SIX + EIGHT + "likes 0 0 99;likes 7 5 1;", "");
        row(c, "like", new int[] {x.like(0, 0), x.like(7, 5), x.like(0, 1), x.like(1, 0), x.like(7, 4)}, 99, 1, 0, 0, 0);
    }

    static void promise10TheDeadAndTheirChildrenLikeWhatTheyLiked(Check c) {
        ForgottenCrafts x = of(ONE + "person 69 0 90;likes 0 0 42;", "");
        x.drift(1, 0);
        c.due("the child", x.like(0, 0), 42);
        x.year(70);
        c.due("the dead", x.like(0, 0), 42);
    }
}
