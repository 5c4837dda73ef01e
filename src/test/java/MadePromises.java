/** Promises 23 to 31: what was made, the book, the seed, images. */
final class MadePromises extends Promises {
    private static final String PLAIN = "trade plain 2 1;";

    // ---- promise 23

    static void promise23ATradeThatThereIsNotIsUnknown(Check c) {
        ForgottenCrafts x = small("");
        refusedBeyond(c, x, UNKNOWN, 0, 3, t -> x.make(t, 1));
    }

    static void promise23LessThanOneAndMoreThanAHundredAreOutside(Check c) {
        ForgottenCrafts x = small("");
        refusedBeyond(c, x, OUTSIDE, 1, 100, quality -> x.make(0, quality));
    }

    static void promise23OneAndAHundredAreMade(Check c) {
        ForgottenCrafts x = small("");
        row(c, "made", new int[] {x.make(0, 1), x.make(3, 100), x.makers(0), x.makers(1)}, 1, 2, 5, 0);
    }

    /** One who may make all, and as many things as told. */
    private static ForgottenCrafts made(int things) {
        ForgottenCrafts x = of(PLAIN + "person 1 0 100;", "");
        for (int i = 0; i < things; i++) {
            x.make(0, i + 1);
        }
        return x;
    }

    static void promise23TwelveThingsAreTheMost(Check c) {
        c.due("the twelfth", made(11).make(0, 1), 12);
    }

    static void promise23AThirteenthIsFull(Check c) {
        ForgottenCrafts x = made(12);
        refused(c, x, FULL, () -> x.make(0, 1));
    }

    static void promise23UnknownAheadOfOutsideAheadOfFull(Check c) {
        ForgottenCrafts x = made(12);
        c.due("all three", x.make(1, 0), UNKNOWN);
        c.due("two", x.make(0, 0), OUTSIDE);
        c.due("two", x.make(0, 101), OUTSIDE);
    }

    static void promise23BehindATornOneThereIsRoomAgain(Check c) {
        ForgottenCrafts x = made(12);
        x.tear();
        c.due("the first", x.make(0, 1), 1);
    }

    // ---- promise 24

    static void promise24AThingThatThereIsNotIsUnknown(Check c) {
        ForgottenCrafts x = made(3);
        refusedBeyond(c, x, UNKNOWN, 0, 2, x::makers);
        c.due("the first", x.makers(0), 1);
        c.due("the last", x.makers(2), 1);
    }

    static void promise24WithoutThingsAllAreUnknown(Check c) {
        c.due("the first", made(0).makers(0), UNKNOWN);
        c.due("a thirteenth", made(12).makers(12), UNKNOWN);
        c.due("the twelfth", made(12).makers(11), 1);
    }

    static void promise24SkillNoLessMakesIt(Check c) {
        ForgottenCrafts x = of(PLAIN + "person 1 0 39;person 1 0 40;person 1 0 41;person 1;", "");
        x.make(0, 40);
        c.due("makers", x.makers(0), 6);
    }

    static void promise24OfTheLeastQualityAreAllWhoKnow(Check c) {
        ForgottenCrafts x = of(PLAIN + "person 1 0 1;" + "person 1;".repeat(6) + "person 1 0 1;", "");
        x.make(0, 1);
        c.due("makers", x.makers(0), 129);
    }

    static void promise24OfTheBestQualityAreWhoHaveAHundred(Check c) {
        ForgottenCrafts x = of(PLAIN + "person 1 0 99;person 1 0 100;", "");
        x.make(0, 100);
        c.due("makers", x.makers(0), 2);
    }

    static void promise24TheDeadMakeNothing(Check c) {
        ForgottenCrafts x = of(PLAIN + "person 69 0 90;person 1 0 90;", "");
        x.make(0, 50);
        x.year(1);
        c.due("the living", x.makers(0), 2);
        x.year(99);
        c.due("nobody", x.makers(0), 0);
    }

    // ---- promise 25

    private static int[] fits(ForgottenCrafts x, int m) {
        return new int[] {x.fits(m, 0), x.fits(m, 1), x.fits(m, 2)};
    }

    static void promise25FewerThanNoughtAndMoreThanEightAreOutside(Check c) {
        ForgottenCrafts x = small("");
        refusedBeyond(c, x, OUTSIDE, 0, 8, m -> x.fits(m, 0));
    }

    static void promise25FromNoughtToTwo(Check c) {
        ForgottenCrafts x = small("");
        refusedBeyond(c, x, OUTSIDE, 0, 2, what -> x.fits(1, what));
    }

    static void promise25OfNothingMadeAllSetsFit(Check c) {
        ForgottenCrafts x = small("");
        row(c, "of 1", fits(x, 1), 4, 0, 1000000);
        row(c, "of 4", fits(x, 4), 1, 15, 1000000);
    }

    static void promise25OfNothingMadeTheEmptySetFits(Check c) {
        row(c, "of 0", fits(small(""), 0), 1, 0, 1000000);
        row(c, "of nobody", fits(new ForgottenCrafts(), 0), 1, 0, 1000000);
    }

    static void promise25TheEmptySetMakesNothing(Check c) {
        row(c, "of 0", fits(made(1), 0), 0, NONE, 0);
    }

    static void promise25MoreThanLiveAreNoSet(Check c) {
        row(c, "of 5", fits(small(""), 5), 0, NONE, 0);
        row(c, "of 8", fits(small(""), 8), 0, NONE, 0);
        row(c, "of nobody", fits(new ForgottenCrafts(), 1), 0, NONE, 0);
    }

    static void promise25AllEightAreOneSet(Check c) {
        ForgottenCrafts x = of(PLAIN + "person 1;".repeat(7) + "person 1 0 50;", "");
        x.make(0, 50);
        row(c, "of 8", fits(x, 8), 1, 255, 1000000);
        row(c, "of 1", fits(x, 1), 1, 128, 125000);
    }

    static void promise25WhereNoneFitsThereIsNone(Check c) {
        ForgottenCrafts x = small("");
        x.make(2, 1);
        row(c, "of 4", fits(x, 4), 0, NONE, 0);
    }

    static void promise25OneMakerOfEachThing(Check c) {
        ForgottenCrafts x = small("");
        x.make(0, 40);
        x.make(1, 61);
        row(c, "of 1", fits(x, 1), 0, NONE, 0);
        row(c, "of 2", fits(x, 2), 2, 2, 333333);
        row(c, "of 3", fits(x, 3), 3, 2, 750000);
        row(c, "of 4", fits(x, 4), 1, 15, 1000000);
    }

    static void promise25OneMayMakeAll(Check c) {
        ForgottenCrafts x = small("");
        x.make(0, 90);
        x.make(1, 60);
        row(c, "of 1", fits(x, 1), 1, 1, 250000);
    }

    static void promise25WhoAreInAllSetsMayBeNobody(Check c) {
        ForgottenCrafts x = of(PLAIN + "person 1 0 50;person 1 0 50;", "");
        x.make(0, 50);
        row(c, "of 1", fits(x, 1), 2, 0, 1000000);
    }

    static void promise25ByLuckIsCut(Check c) {
        ForgottenCrafts x = of(PLAIN + "person 1 0 50;person 1 0 50;person 1;", "");
        x.make(0, 50);
        c.due("2 of 3", x.fits(1, 2), 666666);
        ForgottenCrafts y = of(PLAIN + "person 1 0 50;" + "person 1;".repeat(6), "");
        y.make(0, 50);
        c.due("1 of 7", y.fits(1, 2), 142857);
    }

    static void promise25TheMostSetsAreSeventy(Check c) {
        ForgottenCrafts x = of(PLAIN + "person 1 0 50;".repeat(8), "");
        x.make(0, 50);
        row(c, "of 4", fits(x, 4), 70, 0, 1000000);
    }

    static void promise25TheDeadAreInNoSet(Check c) {
        ForgottenCrafts x = of(PLAIN + "person 1 0 50;person 69 0 50;person 1;", "");
        x.make(0, 50);
        row(c, "of 1", fits(x, 1), 2, 0, 666666);
        x.year(1);
        row(c, "then", fits(x, 1), 1, 1, 500000);
        row(c, "of 3", fits(x, 3), 0, NONE, 0);
    }

    static void promise25TwelveThingsMayBeFitted(Check c) {
        ForgottenCrafts x = of(PLAIN + PLAIN + "person 1 0 50;person 1 1 50;", "");
        for (int i = 0; i < 11; i++) {
            x.make(0, 50);
        }
        c.due("of eleven", x.fits(1, 1), 1);
        x.make(1, 50);
        row(c, "the twelfth needs the other", fits(x, 1), 0, NONE, 0);
        row(c, "both", fits(x, 2), 1, 3, 1000000);
    }

    // ---- promise 26

    static void promise26APersonThatThereIsNotIsUnknown(Check c) {
        ForgottenCrafts x = small("");
        refusedBeyond(c, x, UNKNOWN, 0, 3, p -> x.write(p, 0, 1));
    }

    static void promise26ATradeThatThereIsNotIsUnknown(Check c) {
        ForgottenCrafts x = small("");
        refusedBeyond(c, x, UNKNOWN, 0, 3, t -> x.write(0, t, 1));
    }

    static void promise26LessThanNoughtAndMoreThanAHundredAreOutside(Check c) {
        ForgottenCrafts x = small("");
        refusedBeyond(c, x, OUTSIDE, 0, 100, skill -> x.write(0, 0, skill));
    }

    static void promise26NoughtAndAHundredAreWritten(Check c) {
        ForgottenCrafts x = of(PLAIN + "person 1 0 100;person 1;", "");
        row(c, "written", new int[] {x.write(0, 0, 100), x.write(1, 0, 0), x.judge()}, 1, 2, NONE);
    }

    /** One of skill 100, and as many right entries as told. */
    private static ForgottenCrafts written(int entries) {
        ForgottenCrafts x = made(0);
        for (int i = 0; i < entries; i++) {
            x.write(0, 0, 100);
        }
        return x;
    }

    static void promise26FortyEntriesAreTheMost(Check c) {
        c.due("the fortieth", written(39).write(0, 0, 1), 40);
    }

    static void promise26AFortyFirstIsFull(Check c) {
        ForgottenCrafts x = written(40);
        refused(c, x, FULL, () -> x.write(0, 0, 1));
    }

    static void promise26UnknownAheadOfOutsideAheadOfFull(Check c) {
        ForgottenCrafts x = written(40);
        c.due("all three", x.write(0, 1, 101), UNKNOWN);
        c.due("all three", x.write(1, 0, -1), UNKNOWN);
        c.due("two", x.write(0, 0, 101), OUTSIDE);
        c.due("two", x.write(0, 0, -1), OUTSIDE);
    }

    // ---- promise 27

    static void promise27NothingIsGoneOfNothing(Check c) {
        c.due("tear", new ForgottenCrafts().tear(), 0);
        c.due("tear", small("").tear(), 0);
    }

    static void promise27BothAreGone(Check c) {
        ForgottenCrafts x = written(40);
        for (int i = 0; i < 12; i++) {
            x.make(0, 1);
        }
        c.due("both had", x.tear(), 52);
        row(c, "then", new int[] {x.told(11), x.told(12), x.makers(0), x.judge(), x.tear()}, 0, 0, UNKNOWN, NONE, 0);
    }

    static void promise27OneAloneIsGone(Check c) {
        c.due("entries", written(1).tear(), 1);
        c.due("things", made(1).tear(), 1);
    }

    static void promise27NothingElseIsGone(Check c) {
        ForgottenCrafts x = small("");
        x.want(0, 3);
        x.keep(0);
        String before = Check.all(x);
        x.make(0, 1);
        x.write(0, 0, 1);
        x.tear();
        c.isTrue("all else as it was", Check.all(x).equals(before));
        c.due("the image", x.goBack(0), 1);
    }

    static void promise27BehindItThereIsRoomAgain(Check c) {
        ForgottenCrafts x = written(40);
        x.tear();
        row(c, "anew", new int[] {x.write(0, 0, 99), x.judge(), x.make(0, 1)}, 1, 0, 1);
    }

    // ---- promise 28

    static void promise28OfAnEmptyBookIsNone(Check c) {
        c.due("judge", new ForgottenCrafts().judge(), NONE);
        c.due("judge", small("").judge(), NONE);
    }

    static void promise28OfARightBookIsNone(Check c) {
        c.due("judge", written(40).judge(), NONE);
    }

    static void promise28OneMoreAndOneLessAreWrong(Check c) {
        ForgottenCrafts x = small("");
        x.write(0, 1, 61);
        c.due("one more", x.judge(), 0);
        ForgottenCrafts y = small("");
        y.write(0, 1, 59);
        c.due("one less", y.judge(), 0);
    }

    static void promise28TheFirstOfSeveral(Check c) {
        ForgottenCrafts x = written(5);
        x.write(0, 0, 1);
        x.write(0, 0, 2);
        c.due("the sixth", x.judge(), 5);
    }

    static void promise28TheLastOfForty(Check c) {
        ForgottenCrafts x = written(39);
        x.write(0, 0, 0);
        c.due("the fortieth", x.judge(), 39);
    }

    static void promise28NoughtIsWhatIsNotKnown(Check c) {
        ForgottenCrafts x = small("");
        x.write(3, 0, 0);
        c.due("right", x.judge(), NONE);
        x.write(0, 0, 0);
        c.due("wrong", x.judge(), 1);
    }

    static void promise28ItIsJudgedByWhatIsNow(Check c) {
        ForgottenCrafts x = of(PLAIN + PLAIN + "person 69 0 50;person 1 0 90 1 60;", "");
        x.write(1, 1, 60);
        x.write(0, 0, 0);
        c.due("the second", x.judge(), 1);
        x.year(1);
        c.due("the first, as it rusts", x.judge(), 0);
        x.begin();
        x.tear();
        x.write(0, 0, 0);
        x.year(1);
        c.due("the dead know nothing", x.judge(), NONE);
    }

    // ---- promise 29

    static void promise29BelowNoughtIsOutside(Check c) {
        ForgottenCrafts x = made(0);
        x.seed(7);
        refused(c, x, OUTSIDE, () -> x.seed(-1));
        refused(c, x, OUTSIDE, () -> x.seed(LEAST));
    }

    static void promise29NoughtAndTheGreatestAreSeeds(Check c) {
        ForgottenCrafts x = new ForgottenCrafts();
        row(c, "was", new int[] {x.seed(MOST), x.seed(0), x.seed(1)}, 0, MOST, 0);
    }

    static void promise29DrawsOfTheGreatestWrapAround(Check c) {
        ForgottenCrafts x = of(PLAIN + "person 1 0 50;", "");
        x.seed(MOST);
        x.night(0, 0);
        c.due("less 1103515245, and 12345", seedOf(x), 1043980748);
    }

    static void promise29DrawsOfNoughtBegin(Check c) {
        ForgottenCrafts x = of(PLAIN + "person 1 0 50;", "");
        x.night(0, 0);
        c.due("12345", seedOf(x), 12345);
        x.year(1);
        x.night(0, 0);
        c.due("wrapped around", seedOf(x), 1406932606);
    }

    static void promise29NothingElseBecomesAnother(Check c) {
        ForgottenCrafts x = small("");
        String before = Check.all(x);
        x.seed(5);
        c.isTrue("but the seed", Check.all(x).equals(before.replace("seed 0", "seed 5")));
    }

    // ---- promise 30

    static void promise30AnImageThatThereIsNotIsUnknown(Check c) {
        ForgottenCrafts x = small("");
        refusedBeyond(c, x, UNKNOWN, 0, 1, x::keep);
    }

    static void promise30NoughtAndOneAreKeptEachByItself(Check c) {
        ForgottenCrafts x = small("");
        c.due("keep", x.keep(0), 1);
        c.due("the other is not kept", x.goBack(1), NOT);
        x.year(1);
        c.due("keep", x.keep(1), 1);
        x.year(1);
        x.goBack(0);
        c.due("the year of 0", x.told(3), 0);
        x.goBack(1);
        c.due("the year of 1", x.told(3), 1);
    }

    static void promise30TheSecondAloneMayBeKept(Check c) {
        ForgottenCrafts x = small("");
        c.due("keep", x.keep(1), 1);
        c.due("the other is not kept", x.goBack(0), NOT);
    }

    static void promise30AnImageIsKeptAnew(Check c) {
        ForgottenCrafts x = small("");
        x.keep(0);
        x.year(3);
        x.keep(0);
        x.year(5);
        x.goBack(0);
        c.due("the year", x.told(3), 3);
    }

    static void promise30KeepingChangesNothing(Check c) {
        ForgottenCrafts x = small("");
        x.night(0, 0);
        String before = Check.all(x);
        x.keep(0);
        c.isTrue("nothing changes", Check.all(x).equals(before));
    }

    static void promise30OfNobodyTooAnImageIsKept(Check c) {
        ForgottenCrafts x = new ForgottenCrafts();
        x.year(9);
        c.due("keep", x.keep(0), 1);
        x.year(9);
        c.due("go back", x.goBack(0), 1);
        c.due("the year", x.told(3), 9);
    }

    // ---- promise 31

    static void promise31AnImageThatThereIsNotIsUnknown(Check c) {
        ForgottenCrafts x = small("");
        x.keep(0);
        x.keep(1);
        refusedBeyond(c, x, UNKNOWN, 0, 1, x::goBack);
    }

    static void promise31WhatWasNotKeptIsNot(Check c) {
        ForgottenCrafts x = made(0);
        x.year(1);
        refused(c, x, NOT, () -> x.goBack(0));
        refused(c, x, NOT, () -> x.goBack(1));
    }

    static void promise31BehindATownNothingIsKept(Check c) {
        ForgottenCrafts x = small("");
        x.keep(0);
        x.keep(1);
        Check.town(x, "person 1;");
        refused(c, x, NOT, () -> x.goBack(0));
        refused(c, x, NOT, () -> x.goBack(1));
        x.keep(1);
        c.due("the first is still gone", x.goBack(0), NOT);
        c.due("the second is kept anew", x.goBack(1), 1);
    }

    /** Much that goes on: a change, a night, a trade that is to come back, one who is dead. */
    private static ForgottenCrafts goingOn() {
        ForgottenCrafts x = of("trade back 9 7;trade plain 3 9;" + "person 5 0 10;person 69 0 60;person 5 0 70;person 5 1 9;", "witnesses 1;fades 40;");
        x.change(0, 1, 0, NONE);
        x.year(2);
        x.change(3, 0, 1, NONE);
        x.night(2, 0);
        return x;
    }

    static void promise31AllIsAsItWasKept(Check c) {
        ForgottenCrafts x = goingOn();
        String kept = Check.all(x);
        x.keep(1);
        x.drift(30, 60);
        c.due("go back", x.goBack(1), 1);
        c.isTrue("as it was kept", Check.all(x).equals(kept));
    }

    static void promise31ItGoesOnAsItWould(Check c) {
        ForgottenCrafts x = goingOn();
        x.keep(0);
        x.drift(60, 60);
        x.goBack(0);
        ForgottenCrafts y = goingOn();
        for (int i = 0; i < 12; i++) {
            x.year(1);
            y.year(1);
            row(c, "of 0", new int[] {x.skill(0, 0), x.skill(0, 1), x.person(0, 2)}, y.skill(0, 0), y.skill(0, 1), y.person(0, 2));
            row(c, "of 3", new int[] {x.skill(3, 0), x.skill(3, 1), x.person(3, 3)}, y.skill(3, 0), y.skill(3, 1), y.person(3, 3));
        }
        c.due("what was gone came back", y.skill(0, 0), 1);
        c.due("drift", x.drift(20, 50), y.drift(20, 50));
    }

    static void promise31AnImageStays(Check c) {
        ForgottenCrafts x = small("");
        x.keep(0);
        for (int i = 0; i < 3; i++) {
            x.year(5);
            c.due("go back", x.goBack(0), 1);
            row(c, "year, age", new int[] {x.told(3), x.person(0, 0)}, 0, 20);
        }
    }

    static void promise31TheSeedIsThatOfTheImage(Check c) {
        ForgottenCrafts x = small("");
        x.seed(5);
        x.keep(0);
        x.seed(9);
        x.goBack(0);
        c.due("the seed", x.seed(0), 5);
    }

    static void promise31TheDeadLiveAgain(Check c) {
        ForgottenCrafts x = of(PLAIN + "person 69 0 50;", "");
        x.keep(0);
        x.year(1);
        x.goBack(0);
        row(c, "lives, skill, practises", new int[] {x.told(2), x.skill(0, 0), x.person(0, 1)}, 1, 50, 0);
    }

    static void promise31WitnessesAndNightsAreThoseOfTheImage(Check c) {
        ForgottenCrafts x = of(PLAIN + PLAIN + "person 1 0 50;person 1 0 50;", "witnesses 1;");
        x.change(0, 1, 0, NONE);
        x.night(1, 0);
        x.keep(0);
        x.year(1);
        x.goBack(0);
        row(c, "witness, by night", new int[] {x.person(1, 6), x.person(1, 7), x.night(1, 0)}, 1, 1, NOT);
    }

    static void promise31LawsWantsThingsAndBookAreAsTheyAre(Check c) {
        ForgottenCrafts x = small("holds 5;");
        x.keep(0);
        x.want(0, 2);
        x.make(0, 1);
        x.write(0, 0, 90);
        Check.laws(x, "holds 4;");
        x.goBack(0);
        row(c, "as they are", new int[] {x.told(4), x.trade(0, 6), x.told(11), x.told(12)}, 4, 2, 1, 1);
    }

    static void promise31TheOtherImageStays(Check c) {
        ForgottenCrafts x = small("");
        x.year(1);
        x.keep(0);
        x.year(1);
        x.keep(1);
        x.goBack(0);
        x.goBack(1);
        c.due("the year", x.told(3), 2);
    }

    static void promise31ABeginningIsStillAsTold(Check c) {
        ForgottenCrafts x = small("");
        x.year(3);
        x.keep(0);
        x.goBack(0);
        x.begin();
        row(c, "year, age", new int[] {x.told(3), x.person(0, 0)}, 0, 20);
    }
}
