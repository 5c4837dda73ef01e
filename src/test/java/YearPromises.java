/** Promise 14: what a YEAR does with skills, with what is learnt and forgotten, with ages. */
final class YearPromises extends Promises {
    private static final String PLAIN = "trade plain 9 1;", QUICK = "trade plain 1 1;";

    /** One who begins to give up trade 0 of that kind and skill for trade 1, which takes nine years. */
    private static ForgottenCrafts forgetting(String kind, int skill, int fades) {
        ForgottenCrafts x = of("trade " + kind + " 9 1;" + PLAIN + "person 1 0 " + skill + ";", "witnesses 0;fades " + fades + ";");
        x.change(0, 1, 0, NONE);
        return x;
    }

    private static void forgottenBehindOneYear(Check c, ForgottenCrafts x, int skill, int forgets) {
        x.year(1);
        row(c, "skill, forgets", new int[] {x.skill(0, 0), x.person(0, 3)}, skill, forgets);
    }

    private static void skills(Check c, ForgottenCrafts x, int t, int... due) {
        for (int i = 0; i < due.length; i++) {
            x.year(1);
            c.due("behind " + (i + 1), x.skill(0, t), due[i]);
        }
    }

    // ---- how many years

    static void promise14FewerThanOneYearAndMoreThanNinetyNineAreOutside(Check c) {
        ForgottenCrafts x = small("");
        refusedBeyond(c, x, OUTSIDE, 1, 99, x::year);
    }

    static void promise14NegativeYearsAreOutside(Check c) {
        ForgottenCrafts x = small("");
        refused(c, x, OUTSIDE, () -> x.year(-1));
    }

    static void promise14OneYearGoesBy(Check c) {
        ForgottenCrafts x = small("");
        c.due("who lives", x.year(1), 15);
        c.due("the year", x.told(3), 1);
        c.due("age", x.person(0, 0), 21);
    }

    static void promise14NinetyNineYearsGoBy(Check c) {
        ForgottenCrafts x = of("person 0;person 1;", "dies 100;");
        c.due("who lives", x.year(99), 1);
        c.due("the year", x.told(3), 99);
        c.due("age", x.person(0, 0), 99);
    }

    static void promise14YearsGoByWithoutAnybody(Check c) {
        ForgottenCrafts x = new ForgottenCrafts();
        c.due("who lives", x.year(1), 0);
        c.due("the year", x.told(3), 1);
    }

    static void promise14AsManyYearsAsAllCallsCanTakeGoBy(Check c) {
        ForgottenCrafts x = new ForgottenCrafts();
        for (int i = 0; i < 511; i++) {
            x.year(99);
        }
        c.due("the 512th call", x.told(3), 511 * 99);
    }

    static void promise14ManyYearsAreAsManyTimesOne(Check c) {
        ForgottenCrafts x = small("witnesses 0;");
        ForgottenCrafts y = small("witnesses 0;");
        x.change(0, 2, 1, NONE);
        y.change(0, 2, 1, NONE);
        x.year(7);
        for (int i = 0; i < 7; i++) {
            y.year(1);
        }
        c.isTrue("alike", Check.all(x).equals(Check.all(y)));
    }

    // ---- EARNS

    static void promise14WhatIsEarnedIsCut(Check c) {
        ForgottenCrafts x = of("trade plain 1 99;person 1 0 80;person 1 0 1;person 1 0 2;person 1 0 100;", "");
        x.year(1);
        row(c, "earned", new int[] {x.person(0, 5), x.person(1, 5), x.person(2, 5), x.person(3, 5)}, 79, 0, 1, 99);
    }

    static void promise14ATradeWorthNothingEarnsNothing(Check c) {
        ForgottenCrafts x = of("trade plain 1 0;person 1 0 100;", "");
        x.year(9);
        c.due("earned", x.person(0, 5), 0);
    }

    static void promise14WhoPractisesNothingEarnsNothing(Check c) {
        ForgottenCrafts x = of("trade plain 3 99;person 1;", "");
        x.change(0, 0, NONE, NONE);
        x.year(1);
        c.due("not in the first year of learning", x.person(0, 5), 0);
        x.year(1);
        c.due("99 * 33 / 100 in the second", x.person(0, 5), 32);
    }

    static void promise14ItEarnsAheadOfWhatTheYearTakes(Check c) {
        ForgottenCrafts x = of("trade plain 9 10;" + PLAIN + "person 1 0 50;", "witnesses 0;fades 50;");
        x.change(0, 1, 0, NONE);
        x.year(1);
        c.due("earned with 50", x.person(0, 5), 5);
        c.due("gone", x.skill(0, 0), 0);
    }

    static void promise14ItEarnsInTheYearInWhichItDiesAndNoMore(Check c) {
        ForgottenCrafts x = of("trade plain 9 10;person 69 0 50;", "");
        x.year(1);
        c.due("earned", x.person(0, 5), 5);
        x.year(9);
        c.due("no more", x.person(0, 5), 5);
    }

    // ---- FORGETTING

    static void promise14ForgottenWithOneLeftIsKnown(Check c) {
        forgottenBehindOneYear(c, forgetting("plain", 26, 25), 1, 0);
    }

    static void promise14ForgottenAtNoughtIsGone(Check c) {
        ForgottenCrafts x = forgetting("plain", 25, 25);
        forgottenBehindOneYear(c, x, 0, NONE);
        c.due("known", x.person(0, 4), 2);
    }

    static void promise14ForgottenBelowNoughtIsGone(Check c) {
        forgottenBehindOneYear(c, forgetting("plain", 24, 25), 0, NONE);
        forgottenBehindOneYear(c, forgetting("plain", 1, 100), 0, NONE);
    }

    static void promise14ForgettingGoesOnYearByYear(Check c) {
        skills(c, forgetting("plain", 100, 30), 0, 70, 40, 10, 0, 0);
    }

    static void promise14ForbiddenAndBackAreForgottenAsPlain(Check c) {
        forgottenBehindOneYear(c, forgetting("forbidden", 60, 25), 35, 0);
        forgottenBehindOneYear(c, forgetting("back", 60, 25), 35, 0);
    }

    static void promise14HalfOfFiftyStopsThere(Check c) {
        forgottenBehindOneYear(c, forgetting("half", 50, 25), 50, NONE);
        forgottenBehindOneYear(c, forgetting("half", 50, 100), 50, NONE);
    }

    static void promise14HalfOfMoreStopsAtFifty(Check c) {
        forgottenBehindOneYear(c, forgetting("half", 51, 25), 50, NONE);
        forgottenBehindOneYear(c, forgetting("half", 74, 25), 50, NONE);
        forgottenBehindOneYear(c, forgetting("half", 100, 100), 50, NONE);
    }

    static void promise14HalfThatComesToFiftyJustStops(Check c) {
        forgottenBehindOneYear(c, forgetting("half", 75, 25), 50, NONE);
    }

    static void promise14HalfAboveFiftyGoesOn(Check c) {
        ForgottenCrafts x = forgetting("half", 76, 25);
        forgottenBehindOneYear(c, x, 51, 0);
        forgottenBehindOneYear(c, x, 50, NONE);
    }

    static void promise14HalfBelowFiftyDoesNotStop(Check c) {
        ForgottenCrafts x = forgetting("half", 49, 25);
        forgottenBehindOneYear(c, x, 24, 0);
        forgottenBehindOneYear(c, x, 0, NONE);
    }

    static void promise14OtherKindsDoNotStopAtFifty(Check c) {
        forgottenBehindOneYear(c, forgetting("plain", 50, 25), 25, 0);
        forgottenBehindOneYear(c, forgetting("back", 75, 26), 49, 0);
    }

    static void promise14WhatIsForgottenDoesNotRust(Check c) {
        ForgottenCrafts x = of(PLAIN.repeat(3) + "person 1 0 90 1 60;", "witnesses 0;fades 7;rusts 50;");
        x.change(0, 2, 1, NONE);
        skills(c, x, 1, 53, 46);
    }

    // ---- LEARNING

    static void promise14WhatTakesOneYearIsLearntBehindOne(Check c) {
        ForgottenCrafts x = of(QUICK + "person 1;", "");
        x.change(0, 0, NONE, NONE);
        x.year(1);
        row(c, "skill, learns", new int[] {x.skill(0, 0), x.person(0, 2)}, 100, NONE);
    }

    static void promise14EachYearHasAHundredByTheYearsCut(Check c) {
        ForgottenCrafts x = of("trade plain 3 1;person 1;", "");
        x.change(0, 0, NONE, NONE);
        skills(c, x, 0, 33, 66, 100, 100);
        ForgottenCrafts y = of("trade plain 7 1;person 1;", "");
        y.change(0, 0, NONE, NONE);
        skills(c, y, 0, 14, 28, 42, 56, 70, 84, 100);
    }

    static void promise14InTheLastOfNineYearsItHasAHundred(Check c) {
        ForgottenCrafts x = of(PLAIN + "person 1;", "");
        x.change(0, 0, NONE, NONE);
        x.year(8);
        row(c, "behind 8", new int[] {x.skill(0, 0), x.person(0, 2)}, 88, 0);
        x.year(1);
        row(c, "behind 9", new int[] {x.skill(0, 0), x.person(0, 2)}, 100, NONE);
    }

    static void promise14WithAHundredAheadOfItsYearsItIsLearntNoMore(Check c) {
        ForgottenCrafts x = of(PLAIN + "person 1;", "");
        x.change(0, 0, NONE, NONE);
        int[] byDayAndNight = {11, 27, 43, 59, 75, 91, 100};
        for (int i = 0; i < 7; i++) {
            x.year(1);
            c.due("behind " + (i + 1), x.skill(0, 0), byDayAndNight[i]);
            c.due("learns", x.person(0, 2), i < 6 ? 0 : NONE);
            x.night(0, 0);
        }
    }

    static void promise14AHundredByNightIsLearntNoMoreBehindTheYear(Check c) {
        ForgottenCrafts x = of(PLAIN + "person 1;", "");
        x.change(0, 0, NONE, NONE);
        x.year(3);
        for (int i = 4; i <= 7; i++) {
            x.year(1);
            x.night(0, 0);
        }
        c.due("77 by day, 20 by night", x.skill(0, 0), 97);
        x.year(1);
        row(c, "skill, learns", new int[] {x.skill(0, 0), x.person(0, 2)}, 100, NONE);
    }

    static void promise14WhatIsLearntAndNotPractisedDoesNotRust(Check c) {
        ForgottenCrafts x = of("trade plain 4 1;" + PLAIN + "person 1 1 100;", "rusts 50;");
        x.change(0, 0, NONE, NONE);
        skills(c, x, 0, 25, 50, 75, 100, 50);
    }

    static void promise14WhatIsLearntAndForgottenAtOnceHasBoth(Check c) {
        ForgottenCrafts x = of("trade plain 4 1;person 1;person 1;", "fades 10;");
        x.change(0, 0, NONE, NONE);
        x.year(1);
        x.seed(seedFor(100, 9));
        c.due("seen", x.night(0, 0), 1);
        row(c, "learns, forgets", new int[] {x.person(0, 2), x.person(0, 3)}, 0, 0);
        skills(c, x, 0, 45, 60, 100);
        row(c, "learns, forgets", new int[] {x.person(0, 2), x.person(0, 3)}, NONE, 0);
        skills(c, x, 0, 90);
    }

    static void promise14WhatIsGoneWhileItIsLearntIsLearntOn(Check c) {
        ForgottenCrafts x = of("trade plain 4 1;person 1;person 1;", "fades 100;");
        x.change(0, 0, NONE, NONE);
        x.year(1);
        x.seed(seedFor(100, 9));
        x.night(0, 0);
        x.year(1);
        row(c, "skill, learns, forgets", new int[] {x.skill(0, 0), x.person(0, 2), x.person(0, 3)}, 25, 0, NONE);
    }

    // ---- what rusts

    static void promise14WhatIsNotPractisedRustsToOneAtLeast(Check c) {
        ForgottenCrafts x = of(PLAIN.repeat(4) + "person 1 0 90 1 22 2 21 3 1;", "rusts 20;holds 6;");
        x.year(1);
        row(c, "skill", new int[] {x.skill(0, 0), x.skill(0, 1), x.skill(0, 2), x.skill(0, 3)}, 90, 2, 1, 1);
        x.year(9);
        row(c, "skill", new int[] {x.skill(0, 0), x.skill(0, 1), x.skill(0, 2), x.skill(0, 3)}, 90, 1, 1, 1);
    }

    static void promise14NothingRustsByNought(Check c) {
        ForgottenCrafts x = of(PLAIN.repeat(2) + "person 1 0 90 1 22;", "rusts 0;");
        x.year(50);
        c.due("skill", x.skill(0, 1), 22);
    }

    static void promise14AHundredRustsAllButOne(Check c) {
        ForgottenCrafts x = of(PLAIN.repeat(2) + "person 1 0 100 1 100;", "rusts 100;");
        x.year(1);
        row(c, "skill", new int[] {x.skill(0, 0), x.skill(0, 1)}, 100, 1);
    }

    static void promise14WhatIsPractisedDoesNotRust(Check c) {
        ForgottenCrafts x = of(PLAIN.repeat(2) + "person 1 0 90 1 60;", "");
        x.practise(0, 1);
        x.year(1);
        row(c, "skill", new int[] {x.skill(0, 0), x.skill(0, 1)}, 85, 60);
    }

    static void promise14WhatIsNotKnownDoesNotRust(Check c) {
        ForgottenCrafts x = of(PLAIN.repeat(2) + "person 1 0 90;", "");
        x.year(1);
        c.due("skill", x.skill(0, 1), 0);
    }

    // ---- what comes back

    /** One who has lost trade 0 in YEAR 0, and knows trade 1 with 100. */
    private static ForgottenCrafts lost(String kind, String laws) {
        ForgottenCrafts x = of("trade " + kind + " 9 1;" + QUICK.repeat(3) + "person 1 0 10;", "witnesses 0;fades 100;rusts 0;" + laws);
        x.change(0, 1, 0, NONE);
        x.year(1);
        return x;
    }

    static void promise14BackDoesNotComeBehindEightYears(Check c) {
        ForgottenCrafts x = lost("back", "");
        x.year(8);
        c.due("skill", x.skill(0, 0), 0);
    }

    static void promise14BackComesWithSkillOneBehindNineYears(Check c) {
        ForgottenCrafts x = lost("back", "");
        x.year(9);
        c.due("skill", x.skill(0, 0), 1);
    }

    static void promise14NineYearsAreCountedFromWhenItWasGone(Check c) {
        ForgottenCrafts x = of("trade back 9 1;" + QUICK + "person 1 0 30;", "witnesses 0;fades 10;");
        x.year(5);
        x.change(0, 1, 0, NONE);
        x.year(3);
        c.due("gone", x.skill(0, 0), 0);
        skills(c, x, 0, 0, 0, 0, 0, 0, 0, 0, 0, 1, 1);
    }

    static void promise14OtherKindsDoNotComeBack(Check c) {
        for (String kind : new String[] {"plain", "half", "forbidden"}) {
            ForgottenCrafts x = lost(kind, "");
            x.year(50);
            c.due(kind, x.skill(0, 0), 0);
        }
    }

    static void promise14BackThatWasNeverKnownDoesNotCome(Check c) {
        ForgottenCrafts x = of("trade back 9 1;person 1;", "");
        x.year(50);
        c.due("skill", x.skill(0, 0), 0);
    }

    static void promise14BackWaitsWhileAsManyAreKnownAsOneMay(Check c) {
        ForgottenCrafts x = lost("back", "holds 1;");
        x.year(20);
        c.due("no room", x.skill(0, 0), 0);
        Check.laws(x, "");
        x.year(1);
        c.due("room for one more", x.skill(0, 0), 1);
    }

    static void promise14OfTheLastPersonTheLastTradeComesBack(Check c) {
        ForgottenCrafts x = of(QUICK.repeat(5) + "trade back 1 1;" + "person 1;".repeat(7) + "person 1 5 10;", "witnesses 0;fades 100;");
        x.year(5);
        x.change(7, 0, 5, NONE);
        x.year(9);
        c.due("behind eight", x.skill(7, 5), 0);
        x.year(1);
        c.due("behind nine", x.skill(7, 5), 1);
    }

    static void promise14OfTwoThatComeBackTheLeastTakesTheRoom(Check c) {
        ForgottenCrafts x = of("trade back 9 1;trade back 9 1;" + QUICK.repeat(2) + "person 1 0 10 1 10;", "witnesses 0;fades 100;rusts 0;");
        x.change(0, 2, 0, NONE);
        x.year(1);
        x.change(0, 3, 1, NONE);
        x.year(20);
        row(c, "no room", new int[] {x.skill(0, 0), x.skill(0, 1)}, 0, 0);
        Check.laws(x, "holds 3;rusts 0;");
        x.year(2);
        row(c, "room for one", new int[] {x.skill(0, 0), x.skill(0, 1)}, 1, 0);
        Check.laws(x, "holds 4;rusts 0;");
        x.year(1);
        row(c, "room for both", new int[] {x.skill(0, 0), x.skill(0, 1)}, 1, 1);
    }

    static void promise14RoomIsLookedAtTradeByTrade(Check c) {
        ForgottenCrafts x = of(QUICK + "trade back 1 1;" + QUICK + "person 1 1 10;", "holds 1;witnesses 0;fades 100;");
        x.change(0, 0, 1, NONE);
        x.year(12);
        x.change(0, 2, 0, NONE);
        x.year(1);
        row(c, "gone ahead of it, learnt behind it", new int[] {x.skill(0, 0), x.skill(0, 1), x.skill(0, 2)}, 0, 1, 100);
        ForgottenCrafts y = lost("back", "holds 1;");
        y.year(12);
        y.change(0, 2, 1, NONE);
        y.year(1);
        row(c, "gone behind it", new int[] {y.skill(0, 0), y.skill(0, 1), y.skill(0, 2)}, 0, 0, 100);
    }

    static void promise14BackMayBeForgottenAndComeAgain(Check c) {
        ForgottenCrafts x = lost("back", "");
        x.year(9);
        x.change(0, 2, 0, NONE);
        x.year(1);
        c.due("gone again", x.skill(0, 0), 0);
        Check.laws(x, "holds 6;rusts 0;");
        x.year(8);
        c.due("behind eight", x.skill(0, 0), 0);
        x.year(1);
        c.due("behind nine", x.skill(0, 0), 1);
    }

    static void promise14BackThatIsLearntAgainDoesNotComeBesides(Check c) {
        ForgottenCrafts x = lost("back", "");
        x.change(0, 0, NONE, NONE);
        skills(c, x, 0, 11, 22, 33, 44, 55, 66, 77, 88, 100, 100);
    }

    // ---- AGE

    static void promise14AtItsLastAgeItDies(Check c) {
        ForgottenCrafts x = of(PLAIN + "person 68 0 50;person 69 0 50;", "");
        c.due("at 69 it lives, at 70 it does not", x.year(1), 1);
        row(c, "age", new int[] {x.person(0, 0), x.person(1, 0)}, 69, 70);
        c.due("then neither", x.year(1), 0);
    }

    static void promise14AboveItsLastAgeItDiesInTheNextYear(Check c) {
        ForgottenCrafts x = of(PLAIN + "person 99 0 50;person 70 0 50;", "");
        c.due("as long as no year goes by they live", x.told(2), 3);
        c.due("then they do not", x.year(1), 0);
        row(c, "age", new int[] {x.person(0, 0), x.person(1, 0)}, 100, 71);
    }

    static void promise14WithTheLeastLastAgeAllDieAtOnce(Check c) {
        c.due("who lives", of("person 0;person 50;", "dies 1;").year(1), 0);
    }

    static void promise14WithTheGreatestLastAgeItLivesTillThen(Check c) {
        ForgottenCrafts x = of("person 99;", "dies 120;");
        c.due("at 119", x.year(20), 1);
        c.due("at 120", x.year(1), 0);
    }

    static void promise14TheDeadGrowNoOlder(Check c) {
        ForgottenCrafts x = of("person 69;", "");
        x.year(50);
        c.due("age", x.person(0, 0), 70);
    }

    static void promise14TheDeadKnowLearnForgetPractiseNothing(Check c) {
        ForgottenCrafts x = of(PLAIN.repeat(2) + "person 69 0 90;", "witnesses 0;");
        x.change(0, 1, 0, NONE);
        x.year(1);
        int[] dead = {x.person(0, 1), x.person(0, 2), x.person(0, 3), x.person(0, 4), x.skill(0, 0), x.skill(0, 1)};
        row(c, "dead", dead, NONE, NONE, NONE, 0, 0, 0);
    }

    static void promise14TheDeadLoseWhatComesBack(Check c) {
        ForgottenCrafts x = of("trade back 9 1;" + QUICK + "person 68 0 10;", "witnesses 0;fades 100;");
        x.change(0, 1, 0, NONE);
        x.year(40);
        c.due("skill", x.skill(0, 0), 0);
    }

    // ---- what is practised, behind all

    static void promise14IfItIsGoneTheBestIsPractised(Check c) {
        ForgottenCrafts x = of(PLAIN.repeat(4) + "person 1 0 90 1 40 2 41;", "holds 6;witnesses 0;fades 100;rusts 0;");
        x.change(0, 3, 0, NONE);
        x.year(1);
        c.due("practises", x.person(0, 1), 2);
    }

    static void promise14OfLikeOnesTheLeastIsPractised(Check c) {
        ForgottenCrafts x = of(PLAIN.repeat(4) + "person 1 1 40 2 40 3 90;", "holds 6;witnesses 0;fades 100;rusts 0;");
        x.change(0, 0, 3, NONE);
        x.year(1);
        c.due("practises", x.person(0, 1), 1);
    }

    static void promise14WhileItIsKnownItIsPractisedOn(Check c) {
        ForgottenCrafts x = of(PLAIN.repeat(3) + "person 1 0 50 1 90;", "witnesses 0;fades 49;");
        x.practise(0, 0);
        x.change(0, 2, 0, NONE);
        x.year(1);
        row(c, "skill, practises", new int[] {x.skill(0, 0), x.person(0, 1)}, 1, 0);
        x.year(1);
        row(c, "skill, practises", new int[] {x.skill(0, 0), x.person(0, 1)}, 0, 1);
    }

    static void promise14WhoKnowsNothingAnyMorePractisesNone(Check c) {
        ForgottenCrafts x = of(PLAIN + "person 1 0 10;person 1;", "");
        x.seed(seedFor(100, 9));
        x.night(0, 0);
        x.year(1);
        row(c, "known, practises", new int[] {x.person(0, 4), x.person(0, 1)}, 0, NONE);
    }

    static void promise14WhoPractisedNothingPractisesWhatItLearns(Check c) {
        ForgottenCrafts x = of(PLAIN.repeat(2) + "person 1;", "");
        x.change(0, 1, NONE, NONE);
        c.due("not yet", x.person(0, 1), NONE);
        x.year(1);
        c.due("then", x.person(0, 1), 1);
    }

    static void promise14BehindAllNobodyWasAWitnessOrUpByNight(Check c) {
        ForgottenCrafts x = of(PLAIN.repeat(2) + "person 1 0 90;person 1 0 90;", "witnesses 1;");
        x.change(0, 1, 0, NONE);
        x.night(1, 0);
        row(c, "this year", new int[] {x.person(1, 6), x.person(1, 7)}, 1, 1);
        x.year(1);
        row(c, "then", new int[] {x.person(1, 6), x.person(1, 7)}, 0, 0);
    }
}
