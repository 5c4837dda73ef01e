/** Promises 18 to 22: wants and who changes to what, rings of forgetting, last hands, how long there are masters. */
final class WantPromises extends Promises {
    private static final String PLAIN = "trade plain 1 1;";

    private static int[] ring(ForgottenCrafts x) {
        return new int[] {x.ring(0), x.ring(1), x.ring(2), x.ring(3), x.ring(4), x.ring(5)};
    }

    private static void noRing(Check c, ForgottenCrafts x) {
        row(c, "ring", ring(x), 0, 0, NONE, NONE, NONE, NONE);
    }

    // ---- promise 18

    static void promise18ATradeThatThereIsNotIsUnknown(Check c) {
        ForgottenCrafts x = small("");
        refusedBeyond(c, x, UNKNOWN, 0, 3, t -> x.want(t, 1));
    }

    static void promise18FewerThanNoughtAndMoreThanEightAreOutside(Check c) {
        ForgottenCrafts x = small("");
        x.want(0, 5);
        refusedBeyond(c, x, OUTSIDE, 0, 8, n -> x.want(0, n));
    }

    static void promise18UnknownStandsAheadOfOutside(Check c) {
        c.due("both", small("").want(4, 9), UNKNOWN);
    }

    static void promise18NoughtAndEightAreWanted(Check c) {
        ForgottenCrafts x = small("");
        c.due("were 0", x.want(3, 8), 0);
        c.due("are 8", x.trade(3, 6), 8);
        c.due("were 8", x.want(3, 0), 8);
        c.due("are 0", x.trade(3, 6), 0);
    }

    static void promise18WantsOfOtherTradesStay(Check c) {
        ForgottenCrafts x = small("");
        x.want(0, 1);
        x.want(3, 2);
        row(c, "wants", new int[] {x.trade(0, 6), x.trade(1, 6), x.trade(2, 6), x.trade(3, 6)}, 1, 0, 0, 2);
    }

    // ---- promise 19

    /** The least sum, if one of trade 0 of so many years is wanted, and one who lives has that skill. */
    private static int cost(String kind, int years, int skill) {
        ForgottenCrafts x = of("trade " + kind + " " + years + " 1;person 1" + (skill > 0 ? " 0 " + skill : "") + ";", "");
        x.want(0, 1);
        return x.changed(NONE);
    }

    static void promise19APersonThatThereIsNotIsUnknown(Check c) {
        ForgottenCrafts x = small("");
        c.due("the last", x.changed(3), NONE);
        refusedBeyond(c, x, UNKNOWN, NONE, 3, x::changed);
    }

    static void promise19UnknownEvenIfItCannotBe(Check c) {
        ForgottenCrafts x = small("");
        x.want(0, 8);
        c.due("it cannot be", x.changed(0), NONE);
        c.due("unknown", x.changed(4), UNKNOWN);
    }

    static void promise19WithoutWantsTheSumIsNought(Check c) {
        ForgottenCrafts x = small("");
        row(c, "nobody is given any", new int[] {x.changed(NONE), x.changed(0), x.changed(1), x.changed(2), x.changed(3)}, 0, NONE, NONE, NONE, NONE);
        c.due("nor of nobody", of(PLAIN, "").changed(NONE), 0);
    }

    static void promise19AMasterFromSkillFiftyCostsNothing(Check c) {
        row(c, "9 years", new int[] {cost("plain", 9, 50), cost("plain", 9, 51), cost("plain", 9, 100)}, 0, 0, 0);
    }

    static void promise19WhoIsNoMasterYetCostsWhatIsMissing(Check c) {
        c.due("9 * 51 / 100, up", cost("plain", 9, 49), 5);
        c.due("9 * 99 / 100, up", cost("plain", 9, 1), 9);
    }

    static void promise19WhatIsMissingIsRoundedUp(Check c) {
        c.due("1 * 51 / 100, up", cost("plain", 1, 49), 1);
        c.due("2 * 51 / 100, up", cost("plain", 2, 49), 2);
        c.due("1 * 99 / 100, up", cost("plain", 1, 1), 1);
        c.due("3 * 67 / 100, up", cost("plain", 3, 33), 3);
        c.due("9 * 89 / 100, up", cost("plain", 9, 11), 9);
    }

    static void promise19WhatIsWholeIsNotRoundedUp(Check c) {
        c.due("5 * 60 / 100", cost("plain", 5, 40), 3);
        c.due("4 * 75 / 100", cost("plain", 4, 25), 3);
    }

    static void promise19WhoDoesNotKnowItCostsAllItsYears(Check c) {
        c.due("1", cost("plain", 1, 0), 1);
        c.due("9", cost("half", 9, 0), 9);
    }

    static void promise19WhatIsForbiddenIsGivenToNobodyNew(Check c) {
        c.due("it cannot be", cost("forbidden", 1, 0), NONE);
    }

    static void promise19WhatIsForbiddenIsGivenToWhoKnowsIt(Check c) {
        c.due("from skill 1", cost("forbidden", 4, 1), 4);
        c.due("a master", cost("forbidden", 4, 50), 0);
    }

    static void promise19WhatItNeedsMustBeKnown(Check c) {
        ForgottenCrafts x = of(PLAIN + "trade plain 7 1 needs 0;person 1;person 1;", "");
        x.want(1, 1);
        c.due("it cannot be", x.changed(NONE), NONE);
        ForgottenCrafts y = of(PLAIN + "trade plain 7 1 needs 0;person 1;person 1 0 1;", "");
        y.want(1, 1);
        row(c, "with skill 1 it can", new int[] {y.changed(NONE), y.changed(0), y.changed(1)}, 7, NONE, 1);
    }

    static void promise19WhoKnowsItNeedsNothingMore(Check c) {
        ForgottenCrafts x = of(PLAIN + "trade plain 4 1 needs 0;person 1 1 25;", "");
        x.want(1, 1);
        c.due("4 * 75 / 100", x.changed(NONE), 3);
    }

    static void promise19AsManyAsLiveMayBeWanted(Check c) {
        ForgottenCrafts x = of(PLAIN + PLAIN + "person 1;person 1;person 1;", "");
        x.want(0, 1);
        x.want(1, 2);
        row(c, "all", new int[] {x.changed(NONE), x.changed(0), x.changed(1), x.changed(2)}, 3, 0, 1, 1);
    }

    static void promise19MoreThanLiveCannotBe(Check c) {
        ForgottenCrafts x = of(PLAIN + PLAIN + "person 1;person 1;", "");
        x.want(0, 1);
        x.want(1, 2);
        row(c, "it cannot be", new int[] {x.changed(NONE), x.changed(0), x.changed(1)}, NONE, NONE, NONE);
        ForgottenCrafts nobody = of(PLAIN, "");
        nobody.want(0, 1);
        c.due("of nobody", nobody.changed(NONE), NONE);
    }

    static void promise19AllThatCanBeWantedCannotBe(Check c) {
        ForgottenCrafts x = of(PLAIN.repeat(6) + "person 1;".repeat(8), "");
        for (int t = 0; t < 6; t++) {
            x.want(t, 8);
        }
        row(c, "48 of eight", new int[] {x.changed(NONE), x.changed(0), x.changed(7)}, NONE, NONE, NONE);
    }

    static void promise19OneMoreThanEightOfEightCannotBe(Check c) {
        ForgottenCrafts x = of(PLAIN.repeat(6) + "person 1;".repeat(8), "");
        int[] wants = {8, 2, 2, 2, 1, 1};
        for (int t = 0; t < 6; t++) {
            x.want(t, wants[t]);
        }
        row(c, "16 of eight", new int[] {x.changed(NONE), x.changed(0), x.changed(7)}, NONE, NONE, NONE);
        x.want(0, 1);
        row(c, "9 of eight", new int[] {x.changed(NONE), x.changed(0), x.changed(7)}, NONE, NONE, NONE);
        x.want(0, 0);
        row(c, "8 of eight", new int[] {x.changed(NONE), x.changed(0), x.changed(7)}, 8, 1, 5);
    }

    static void promise19WhatWasAskedAheadChangesNoAnswer(Check c) {
        ForgottenCrafts x = of(PLAIN.repeat(3) + "person 1;".repeat(3), "");
        for (int t = 0; t < 3; t++) {
            x.want(t, 1);
        }
        row(c, "three", new int[] {x.changed(NONE), x.changed(0), x.changed(1), x.changed(2)}, 3, 0, 1, 2);
        x.want(0, 0);
        x.want(1, 0);
        row(c, "one", new int[] {x.changed(NONE), x.changed(0), x.changed(1), x.changed(2)}, 1, 2, NONE, NONE);
        x.want(2, 0);
        row(c, "none", new int[] {x.changed(NONE), x.changed(0), x.changed(1), x.changed(2)}, 0, NONE, NONE, NONE);
        x.want(2, 4);
        row(c, "it cannot be", new int[] {x.changed(NONE), x.changed(0), x.changed(1), x.changed(2)}, NONE, NONE, NONE, NONE);
        x.want(2, 2);
        row(c, "two", new int[] {x.changed(NONE), x.changed(0), x.changed(1), x.changed(2)}, 2, 2, 2, NONE);
    }

    static void promise19EightOfEight(Check c) {
        ForgottenCrafts x = of(PLAIN.repeat(6) + "person 1 5 50;".repeat(8), "");
        x.want(5, 8);
        row(c, "all masters", new int[] {x.changed(NONE), x.changed(0), x.changed(7)}, 0, 5, 5);
        for (int t = 0; t < 6; t++) {
            x.want(t, t < 2 ? 2 : 1);
        }
        int[] given = new int[9];
        for (int p = NONE; p < 8; p++) {
            given[p + 1] = x.changed(p);
        }
        row(c, "of all trades", given, 7, 0, 0, 1, 1, 2, 3, 4, 5);
    }

    static void promise19TheDeadAreGivenNothing(Check c) {
        ForgottenCrafts x = of(PLAIN + "person 69 0 90;person 1;", "");
        x.want(0, 1);
        c.due("a master costs nothing", x.changed(NONE), 0);
        x.year(1);
        row(c, "the living one", new int[] {x.changed(NONE), x.changed(0), x.changed(1)}, 1, NONE, 0);
        x.want(0, 2);
        c.due("two cannot be", x.changed(NONE), NONE);
    }

    static void promise19TheLeastSumStandsAheadOfTheFirst(Check c) {
        ForgottenCrafts x = of(PLAIN + "person 1 0 49;person 1 0 50;", "");
        x.want(0, 1);
        row(c, "the second", new int[] {x.changed(NONE), x.changed(0), x.changed(1)}, 0, NONE, 0);
    }

    static void promise19OfLikeSumsTheFirstHasTheLeastTrade(Check c) {
        ForgottenCrafts x = of(PLAIN + PLAIN + "person 1;person 1;", "");
        x.want(0, 1);
        x.want(1, 1);
        row(c, "in order", new int[] {x.changed(NONE), x.changed(0), x.changed(1)}, 2, 0, 1);
    }

    static void promise19OfLikeSumsNoneComesLast(Check c) {
        ForgottenCrafts x = of(PLAIN + PLAIN + "person 1;person 1;person 1;", "");
        x.want(1, 2);
        row(c, "the last has none", new int[] {x.changed(0), x.changed(1), x.changed(2)}, 1, 1, NONE);
    }

    static void promise19JustAsManyAsAreWantedAreGiven(Check c) {
        ForgottenCrafts x = of(PLAIN + PLAIN + "person 1 0 90;person 1 0 90;person 1 0 90;", "");
        x.want(0, 2);
        row(c, "a third master has none", new int[] {x.changed(NONE), x.changed(0), x.changed(1), x.changed(2)}, 0, 0, 0, NONE);
    }

    static void promise19NothingChanges(Check c) {
        ForgottenCrafts x = small("");
        x.want(0, 2);
        String before = Check.all(x);
        x.changed(NONE);
        x.changed(0);
        c.isTrue("nothing changes", Check.all(x).equals(before));
    }

    // ---- promise 20

    static void promise20FromNoughtToFive(Check c) {
        ForgottenCrafts x = small("");
        c.due("the last", x.ring(5), NONE);
        refusedBeyond(c, x, OUTSIDE, 0, 5, x::ring);
    }

    static void promise20WithoutOneItIsNoughtAndNone(Check c) {
        noRing(c, new ForgottenCrafts());
        noRing(c, small(""));
    }

    static void promise20OneAloneIsNoRing(Check c) {
        noRing(c, of(PLAIN + PLAIN + "person 1 0 50;likes 0 1 9;", ""));
    }

    static void promise20TwoAreARing(Check c) {
        ForgottenCrafts x = of(PLAIN + PLAIN + "person 1 0 50;person 1 1 50;likes 0 1 5;likes 1 0 6;", "");
        row(c, "ring", ring(x), 11, 2, 0, 1, NONE, NONE);
    }

    /** As many as told, each of whom knows one trade and likes that of the next one; the last that of the first. */
    private static ForgottenCrafts circle(int n) {
        StringBuilder town = new StringBuilder(PLAIN.repeat(n));
        for (int p = 0; p < n; p++) {
            town.append("person 1 ").append(p).append(" 50;");
        }
        for (int p = 0; p < n; p++) {
            town.append("likes ").append(p).append(' ').append((p + 1) % n).append(' ').append(p + 1).append(';');
        }
        return of(town.toString(), "");
    }

    static void promise20ThreeAreARing(Check c) {
        row(c, "ring", ring(circle(3)), 6, 3, 0, 1, 2, NONE);
    }

    static void promise20FourAreARing(Check c) {
        row(c, "ring", ring(circle(4)), 10, 4, 0, 1, 2, 3);
    }

    static void promise20FiveAreNoRing(Check c) {
        noRing(c, circle(5));
    }

    static void promise20TheFirstIsTheLeastEvenIfTheRingGoesDown(Check c) {
        ForgottenCrafts x = of(PLAIN.repeat(3) + "person 1 0 50;person 1 1 50;person 1 2 50;likes 0 2 1;likes 2 1 1;likes 1 0 1;", "");
        row(c, "ring", ring(x), 3, 3, 0, 2, 1, NONE);
    }

    static void promise20TheDeadAreInNone(Check c) {
        ForgottenCrafts x = of(PLAIN + PLAIN + "person 69 0 50;person 1 1 50;likes 0 1 5;likes 1 0 6;", "");
        c.due("as long as it lives", x.ring(0), 11);
        x.year(1);
        noRing(c, x);
    }

    static void promise20WhoKnowsNothingIsInNone(Check c) {
        noRing(c, of(PLAIN + PLAIN + "person 1 0 50;person 1;likes 0 1 5;likes 1 0 6;", ""));
    }

    static void promise20WhoLearnsIsInNone(Check c) {
        ForgottenCrafts x = of(PLAIN + PLAIN + "trade plain 9 1;person 1 0 50;person 1 1 50;likes 0 1 5;likes 1 0 6;", "");
        x.change(1, 2, NONE, NONE);
        noRing(c, x);
    }

    static void promise20WhoForgetsMayBeInOne(Check c) {
        ForgottenCrafts x = of(PLAIN + PLAIN + "person 1 0 50;person 1 1 50;likes 0 1 5;likes 1 0 6;", "");
        x.seed(seedFor(100, 0));
        x.night(0, 0);
        c.due("forgets", x.person(0, 3), 0);
        c.due("sum", x.ring(0), 11);
    }

    static void promise20LikedAlikeIsNoGain(Check c) {
        noRing(c, of(PLAIN + PLAIN + "person 1 0 50;person 1 1 50;likes 0 1 5;", ""));
        noRing(c, of(PLAIN + PLAIN + "person 1 0 50;person 1 1 50;likes 0 1 5;likes 1 0 6;likes 1 1 6;", ""));
    }

    static void promise20OneMoreIsAGain(Check c) {
        ForgottenCrafts x = of(PLAIN + PLAIN + "person 1 0 50;person 1 1 50;likes 0 1 1;likes 1 0 99;likes 1 1 98;", "");
        row(c, "ring", ring(x), 2, 2, 0, 1, NONE, NONE);
    }

    static void promise20LikedLessIsNoGainWhateverTheOthersGain(Check c) {
        noRing(c, of(PLAIN + PLAIN + "person 1 0 50;person 1 1 50;likes 0 1 99;likes 1 1 1;", ""));
    }

    static void promise20WhatIsKnownWithSkillOneIsNotTaken(Check c) {
        String town = PLAIN + PLAIN + "person 1 0 50;person 1 0 1 1 50;likes 0 1 5;likes 1 0 6;";
        noRing(c, of(town, ""));
    }

    static void promise20WhatIsForbiddenIsNotTaken(Check c) {
        noRing(c, of(PLAIN + "trade forbidden 1 1;person 1 0 50;person 1 1 50;likes 0 1 5;likes 1 0 6;", ""));
    }

    static void promise20WhatIsNeededIsNotLookedAt(Check c) {
        ForgottenCrafts x = of(PLAIN + PLAIN + "trade plain 1 1 needs 0;person 1 1 50;person 1 2 50;likes 0 2 5;likes 1 1 6;", "");
        c.due("sum", x.ring(0), 11);
    }

    static void promise20TheOneLikedLeastIsGivenUp(Check c) {
        String town = PLAIN.repeat(3) + "person 1 0 50 1 50;person 1 2 50;likes 0 0 3;likes 0 1 2;likes 0 2 9;likes 1 0 90;likes 1 1 5;";
        c.due("7 and 5", of(town, "").ring(0), 12);
    }

    static void promise20OfLikeOnesTheLeastIsGivenUp(Check c) {
        String town = PLAIN.repeat(3) + "person 1 1 50 2 50;person 1 0 50;likes 0 0 9;likes 0 1 3;likes 0 2 3;likes 1 1 4;likes 1 2 90;";
        c.due("6 and 4", of(town, "").ring(0), 10);
    }

    static void promise20TheGreatestSumStandsAheadOfTheFewest(Check c) {
        String town = PLAIN + PLAIN + "person 1 0 50;person 1 1 50;person 1 0 50;person 1 1 50;";
        ForgottenCrafts x = of(town + "likes 0 1 5;likes 1 0 6;likes 2 1 5;likes 3 0 6;", "");
        row(c, "ring", ring(x), 22, 4, 0, 1, 2, 3);
    }

    static void promise20OfLikeSumsTheFewest(Check c) {
        String town = PLAIN.repeat(3) + "person 1 0 50;person 1 1 50;person 1 2 50;";
        ForgottenCrafts x = of(town + "likes 0 1 1;likes 1 2 4;likes 2 0 1;likes 2 1 2;", "");
        row(c, "two of six ahead of three of six", ring(x), 6, 2, 1, 2, NONE, NONE);
    }

    static void promise20OfLikeSumsAndSizesTheFirst(Check c) {
        String town = PLAIN + PLAIN + "person 1 0 50;person 1 1 50;person 1 0 50;";
        ForgottenCrafts x = of(town + "likes 0 1 5;likes 1 0 6;likes 2 1 5;", "");
        row(c, "the first with the second", ring(x), 11, 2, 0, 1, NONE, NONE);
        String three = PLAIN.repeat(3) + "person 1 0 50;person 1 1 50;person 1 2 50;";
        ForgottenCrafts y = of(three + "likes 0 1 5;likes 1 2 5;likes 2 0 5;likes 0 2 5;likes 1 0 5;likes 2 1 5;", "");
        row(c, "of two threes", ring(y), 15, 3, 0, 1, 2, NONE);
    }

    // ---- promise 21

    static void promise21ATradeThatThereIsNotIsUnknown(Check c) {
        ForgottenCrafts x = small("");
        refusedBeyond(c, x, UNKNOWN, 0, 3, t -> x.lastHand(t, 0));
    }

    static void promise21NoughtAndOneAlone(Check c) {
        ForgottenCrafts x = small("");
        refusedBeyond(c, x, OUTSIDE, 0, 1, what -> x.lastHand(3, what));
    }

    static void promise21UnknownStandsAheadOfOutside(Check c) {
        c.due("both", small("").lastHand(4, 2), UNKNOWN);
    }

    private static void hand(Check c, ForgottenCrafts x, int person, int worth) {
        row(c, "hand, worth", new int[] {x.lastHand(0, 0), x.lastHand(0, 1)}, person, worth);
    }

    static void promise21NobodyKnowsIt(Check c) {
        hand(c, of(PLAIN + "person 1;", ""), NONE, NONE);
        hand(c, of(PLAIN, ""), NONE, NONE);
    }

    static void promise21MoreThanOneKnowIt(Check c) {
        hand(c, of(PLAIN + "person 1 0 90;person 1 0 1;", ""), NONE, NONE);
    }

    static void promise21OneAloneKnowsItWithSkillOne(Check c) {
        hand(c, of("trade plain 1 99;person 1;person 1;" + "person 30 0 1;", ""), 2, 3960);
        hand(c, of("trade plain 1 99;" + "person 1;".repeat(7) + "person 0 0 1;", "dies 120;"), 7, 11880);
    }

    static void promise21TheDeadKnowNothing(Check c) {
        ForgottenCrafts x = of(PLAIN + "person 69 0 90;person 1 0 1;", "");
        hand(c, x, NONE, NONE);
        x.year(1);
        hand(c, x, 1, 68);
    }

    static void promise21AYearAheadOfItsDeathItIsWorthOneYear(Check c) {
        hand(c, of("trade plain 1 99;person 69 0 50;", ""), 0, 99);
    }

    static void promise21AtItsLastAgeItIsWorthNothing(Check c) {
        hand(c, of("trade plain 1 99;person 70 0 50;", ""), 0, 0);
    }

    static void promise21AboveItsLastAgeItIsWorthNothing(Check c) {
        hand(c, of("trade plain 1 99;person 99 0 50;", ""), 0, 0);
    }

    static void promise21ATradeWorthNothingIsWorthNothing(Check c) {
        hand(c, of("trade plain 1 0;person 1 0 50;", ""), 0, 0);
    }

    // ---- promise 22

    static void promise22ATradeThatThereIsNotIsUnknown(Check c) {
        ForgottenCrafts x = small("");
        refusedBeyond(c, x, UNKNOWN, 0, 3, x::till);
    }

    static void promise22NoMasterNowIsNought(Check c) {
        c.due("of nobody", of(PLAIN, "").till(0), 0);
        c.due("49", of(PLAIN + "person 1 0 49;", "").till(0), 0);
    }

    static void promise22AMasterOfFiftyInItsLastYearIsOne(Check c) {
        c.due("1", of(PLAIN + "person 69 0 50;", "").till(0), 1);
        c.due("above its last age", of(PLAIN + "person 99 0 50;", "").till(0), 1);
    }

    static void promise22TheLongestIsAsLongAsOneLives(Check c) {
        c.due("120", of(PLAIN + "person 0 0 50;", "dies 120;").till(0), 120);
    }

    static void promise22WhatRustsBelowFiftyIsNoMastersAnyMore(Check c) {
        String town = PLAIN + PLAIN + "person 1 0 60 1 90;";
        c.due("60, 55, 50, 45", of(town, "").till(0), 3);
        c.due("60, 50, 40", of(town, "rusts 10;").till(0), 2);
        c.due("till it dies", of(town, "rusts 0;").till(0), 69);
    }

    static void promise22LearnersLearnOn(Check c) {
        ForgottenCrafts x = of("trade plain 2 1;person 1;person 69 0 90;", "");
        x.change(0, 0, NONE, NONE);
        c.due("one is master as the other dies", x.till(0), 69);
    }

    static void promise22ANewMasterThatComesTooLateDoesNotCount(Check c) {
        ForgottenCrafts x = of("trade plain 3 1;person 1;person 69 0 90;", "");
        x.change(0, 0, NONE, NONE);
        c.due("33 as the other dies", x.till(0), 1);
    }

    static void promise22WhatIsForgottenFadesOn(Check c) {
        ForgottenCrafts x = of(PLAIN + "trade plain 9 1;person 1 0 90;", "witnesses 0;fades 20;");
        x.change(0, 1, 0, NONE);
        c.due("70, 50, 30", x.till(0), 3);
        ForgottenCrafts half = of("trade half 1 1;trade plain 9 1;person 1 0 90;", "witnesses 0;fades 20;rusts 0;");
        half.change(0, 1, 0, NONE);
        c.due("half stays till it dies", half.till(0), 69);
    }

    static void promise22NothingChanges(Check c) {
        ForgottenCrafts x = small("witnesses 0;");
        x.seed(4711);
        x.change(0, 2, 1, NONE);
        x.night(1, 1);
        String before = Check.all(x);
        x.till(0);
        x.till(1);
        c.isTrue("nothing changes", Check.all(x).equals(before));
    }
}
