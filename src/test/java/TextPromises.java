/** Promises 2 and 3: what is fed, and the town that a text becomes. */
final class TextPromises extends Promises {
    private static final String ONE = "trade plain 1 1;", TWO = ONE + "trade half 9 0 needs 0;", SIX = ONE.repeat(6);

    /** A town with something of all that a new town takes away; laws and a seed, which stay. */
    private static ForgottenCrafts busy() {
        ForgottenCrafts x = of(TWO + "person 30 0 90;person 31 0 40;likes 1 1 7;", "holds 3;witnesses 0;");
        x.seed(77);
        x.want(0, 2);
        x.make(0, 5);
        x.write(0, 0, 5);
        x.change(0, 1, NONE, NONE);
        x.year(3);
        x.keep(0);
        x.keep(1);
        return x;
    }

    private static ForgottenCrafts newTown(String text) {
        ForgottenCrafts x = busy();
        Check.town(x, text);
        return x;
    }

    private static void stands(Check c, String text, int people) {
        ForgottenCrafts x = new ForgottenCrafts();
        c.due("town of " + text, Check.town(x, text), people);
        c.due("its fault", x.fault(), NONE);
    }

    private static void faulty(Check c, String text, int number, int place) {
        ForgottenCrafts x = new ForgottenCrafts();
        c.due("town of " + text, Check.town(x, text), -10 - number);
        c.due("place in " + text, x.fault(), place);
    }

    // ---- promise 2

    static void promise02NoByteIsOutside(Check c) {
        ForgottenCrafts x = new ForgottenCrafts();
        refused(c, x, OUTSIDE, () -> x.feed(0, 59L));
    }

    static void promise02NineBytesAreOutside(Check c) {
        ForgottenCrafts x = new ForgottenCrafts();
        refused(c, x, OUTSIDE, () -> x.feed(9, 59L));
    }

    static void promise02FarNumbersOfBytesAreOutside(Check c) {
        ForgottenCrafts x = new ForgottenCrafts();
        refused(c, x, OUTSIDE, () -> x.feed(-1, 59L));
        refusedBeyond(c, x, OUTSIDE, 1, 8, n -> x.feed(n, 59L));
    }

    static void promise02OneByteIsTheFewest(Check c) {
        ForgottenCrafts x = new ForgottenCrafts();
        c.due("feed 1", x.feed(1, 32L), 1);
        c.due("told 10", x.told(10), 1);
    }

    static void promise02EightBytesAreTheMost(Check c) {
        ForgottenCrafts x = new ForgottenCrafts();
        c.due("feed 8", x.feed(8, 0x2020202020202020L), 8);
        c.due("told 10", x.told(10), 8);
    }

    static void promise02BytesAboveTheLowestAreNotTaken(Check c) {
        ForgottenCrafts x = new ForgottenCrafts();
        c.due("feed 3", x.feed(3, 0x7a7a7a7a7a202020L), 3);
        c.due("three blanks", x.town(), 0);
    }

    static void promise02TheHighestOfTheLowestComeFirst(Check c) {
        ForgottenCrafts x = new ForgottenCrafts();
        x.feed(8, 0x706572736f6e2037L);
        c.due("behind the text", x.feed(3, 0x7a7a7a7a7a38203bL), 11);
        c.due("person 78 ;", x.town(), 1);
        c.due("age", x.person(0, 0), 78);
    }

    static void promise02AByteOf255AtEitherEndComesAsItIs(Check c) {
        ForgottenCrafts x = new ForgottenCrafts();
        x.feed(8, 0xff20202020202020L);
        c.due("at the highest", x.town(), -11);
        c.due("its place", x.fault(), 0);
        x.feed(8, 0x20202020202020ffL);
        c.due("at the lowest", x.town(), -11);
        c.due("its place", x.fault(), 7);
        c.due("all 255", x.feed(8, -1L), 8);
    }

    private static ForgottenCrafts fed(int bytes) {
        ForgottenCrafts x = new ForgottenCrafts();
        Check.feed(x, " ".repeat(bytes));
        return x;
    }

    static void promise02FiveHundredBytesAreThere(Check c) {
        c.due("feed 8 behind 492", fed(492).feed(8, 0x2020202020202020L), 500);
        c.due("feed 1 behind 499", fed(499).feed(1, 32L), 500);
    }

    static void promise02TheByteBehindFiveHundredIsFull(Check c) {
        ForgottenCrafts x = fed(500);
        refused(c, x, FULL, () -> x.feed(1, 59L));
    }

    static void promise02WhatDoesNotFitWholeIsFull(Check c) {
        ForgottenCrafts x = fed(496);
        refused(c, x, FULL, () -> x.feed(5, 59L));
        refused(c, x, FULL, () -> x.feed(8, 59L));
        c.due("feed 4 behind 496", x.feed(4, 0x20202020L), 500);
        c.due("blanks alone", x.town(), 0);
    }

    static void promise02OutsideStandsAheadOfFull(Check c) {
        ForgottenCrafts x = fed(500);
        refused(c, x, OUTSIDE, () -> x.feed(9, 59L));
        refused(c, x, OUTSIDE, () -> x.feed(0, 59L));
    }

    static void promise02AnEmptiedTextHasRoomAgain(Check c) {
        ForgottenCrafts x = fed(500);
        x.town();
        c.due("feed 8", x.feed(8, 0x2020202020202020L), 8);
    }

    // ---- promise 3: what a town takes away, and what stays

    static void promise03AnEmptyTextIsATownOfNobody(Check c) {
        stands(c, "", 0);
        ForgottenCrafts x = busy();
        c.due("town", x.town(), 0);
        c.due("trades", x.told(0), 0);
        c.due("people", x.told(1), 0);
        c.due("who lives", x.told(2), 0);
    }

    static void promise03BlanksAloneAreATownOfNobody(Check c) {
        stands(c, " ", 0);
        stands(c, " ".repeat(500), 0);
    }

    static void promise03TheTextIsEmptyThen(Check c) {
        c.due("bytes", newTown("person 1;").told(10), 0);
    }

    static void promise03TheTextIsEmptyWithAFaultToo(Check c) {
        c.due("bytes", newTown("person 1").told(10), 0);
    }

    static void promise03TheYearIsNought(Check c) {
        c.due("the year", newTown("person 1;").told(3), 0);
    }

    static void promise03NobodyChanges(Check c) {
        ForgottenCrafts x = newTown(TWO + "person 1 0 9;person 2;");
        row(c, "of the first", new int[] {x.person(0, 2), x.person(0, 3), x.person(0, 5)}, NONE, NONE, 0);
    }

    static void promise03WantsAreNought(Check c) {
        c.due("wants", newTown(TWO).trade(0, 6), 0);
    }

    static void promise03NothingIsMade(Check c) {
        ForgottenCrafts x = newTown(TWO);
        c.due("things", x.told(11), 0);
        c.due("makers", x.makers(0), UNKNOWN);
    }

    static void promise03ThereIsNoBook(Check c) {
        ForgottenCrafts x = newTown(TWO + "person 1;");
        c.due("entries", x.told(12), 0);
        c.due("judge", x.judge(), NONE);
    }

    static void promise03ImagesAreGone(Check c) {
        ForgottenCrafts x = newTown(TWO);
        c.due("image 0", x.goBack(0), NOT);
        c.due("image 1", x.goBack(1), NOT);
    }

    static void promise03LawsStay(Check c) {
        ForgottenCrafts x = newTown(TWO);
        row(c, "law", new int[] {x.told(4), x.told(5), x.told(6)}, 3, 0, 25);
    }

    static void promise03TheSeedStays(Check c) {
        c.due("the seed", newTown(TWO).seed(0), 77);
    }

    static void promise03LikesOfTheTownBeforeAreGone(Check c) {
        c.due("untold", newTown(TWO + "person 1;person 1;").like(1, 1), 0);
    }

    static void promise03WithAFaultAllElseIsAsItWas(Check c) {
        for (String text : new String[] {"x", "person 100;", ONE + "person 1;person 1 0 0;", SIX + "person 1;" + "trade"}) {
            ForgottenCrafts x = busy();
            String before = Check.all(x);
            c.isTrue("a fault in " + text, Check.town(x, text) < -10);
            c.isTrue("as it was behind " + text, Check.all(x).equals(before.replace("fault -1", "fault " + x.fault())));
            c.due("image 0", x.goBack(0), 1);
            c.due("image 1", x.goBack(1), 1);
            x.begin();
            row(c, "as it was told", new int[] {x.person(0, 0), x.skill(0, 0), x.skill(1, 0), x.like(1, 1)}, 30, 90, 40, 7);
        }
    }

    static void promise03AFaultAnswersTenLessItsNumber(Check c) {
        ForgottenCrafts x = new ForgottenCrafts();
        c.due("1", Check.town(x, "x"), -11);
        c.due("2", Check.town(x, "person 100;"), -12);
        c.due("3", Check.town(x, SIX + "trade"), -13);
        c.due("4", Check.town(x, ONE + "person 1 0 1 0"), -14);
    }

    static void promise03FiveHundredBytesAreReadToTheLast(Check c) {
        stands(c, " ".repeat(491) + "person 1;", 1);
        faulty(c, " ".repeat(499) + "x", 1, 499);
        faulty(c, " ".repeat(492) + "person 1", 1, 500);
    }

    // ---- promise 3: the bounds of a town

    static void promise03ATownMayHaveNoTrade(Check c) {
        stands(c, "person 7;", 1);
    }

    static void promise03ATownMayHaveNobody(Check c) {
        stands(c, ONE, 0);
    }

    static void promise03SixTradesAreTheMost(Check c) {
        stands(c, SIX, 0);
        ForgottenCrafts x = of(SIX, "");
        c.due("trades", x.told(0), 6);
        c.due("the sixth", x.trade(5, 1), 1);
    }

    static void promise03ASeventhTradeIsFault3(Check c) {
        faulty(c, SIX + ONE, 3, SIX.length());
    }

    static void promise03EightPersonsAreTheMost(Check c) {
        stands(c, "person 1;".repeat(8), 8);
        c.due("who lives", of("person 1;".repeat(8), "").told(2), 255);
    }

    static void promise03ANinthPersonIsFault3(Check c) {
        faulty(c, "person 1;".repeat(9), 3, 72);
    }

    static void promise03ATradeBehindAPersonIsFault1(Check c) {
        faulty(c, ONE + "person 1;" + ONE, 1, 25);
        faulty(c, ONE + "person 1;likes 0 0 0;" + ONE, 1, 37);
    }

    static void promise03KindsAreFourWords(Check c) {
        String[] kinds = {"plain", "back", "half", "forbidden"};
        for (int k = 0; k < 4; k++) {
            c.due(kinds[k], of("trade " + kinds[k] + " 1 1;", "").trade(0, 0), k);
        }
        faulty(c, "trade odd 1 1;", 1, 6);
        faulty(c, "trade 1 1;", 1, 6);
    }

    static void promise03AYearIsTheFewestToLearn(Check c) {
        c.due("1", of("trade plain 1 5;", "").trade(0, 1), 1);
        faulty(c, "trade plain 0 5;", 2, 12);
    }

    static void promise03NineYearsAreTheMostToLearn(Check c) {
        c.due("9", of("trade plain 9 5;", "").trade(0, 1), 9);
        faulty(c, "trade plain 10 5;", 2, 12);
    }

    static void promise03ATradeMayBeWorthNothing(Check c) {
        c.due("0", of("trade plain 5 0;", "").trade(0, 2), 0);
        faulty(c, "trade plain 5 -1;", 1, 14);
    }

    static void promise03NinetyNineIsTheMostWorth(Check c) {
        c.due("99", of("trade plain 5 99;", "").trade(0, 2), 99);
        faulty(c, "trade plain 5 100;", 2, 14);
    }

    static void promise03NeedsMayBeUntold(Check c) {
        c.due("needs", of(ONE, "").trade(0, 3), NONE);
    }

    static void promise03NeedsATradeToldAhead(Check c) {
        String last = SIX.substring(16);
        c.due("the first", of(last + "trade plain 1 1 needs 0;", "").trade(5, 3), 0);
        c.due("the one ahead", of(last + "trade plain 1 1 needs 4;", "").trade(5, 3), 4);
    }

    static void promise03NeedsOfItselfIsFault2(Check c) {
        faulty(c, "trade plain 1 1 needs 0;", 2, 22);
        faulty(c, ONE + "trade plain 1 1 needs 1;", 2, 38);
    }

    static void promise03NeedsOfALaterTradeIsFault2(Check c) {
        faulty(c, ONE + "trade plain 1 1 needs 2;" + ONE, 2, 38);
    }

    static void promise03NeedsIsToldOnce(Check c) {
        faulty(c, ONE + "trade plain 1 1 needs 0 0;", 1, 40);
        faulty(c, ONE + "trade plain 1 1 needs 0 needs 0;", 1, 40);
    }

    static void promise03AgeMayBeNought(Check c) {
        c.due("0", of("person 0;", "").person(0, 0), 0);
    }

    static void promise03NinetyNineIsTheMostAge(Check c) {
        c.due("99", of("person 99;", "").person(0, 0), 99);
        faulty(c, "person 100;", 2, 7);
    }

    static void promise03OneIsTheLeastSkill(Check c) {
        c.due("1", of(ONE + "person 1 0 1;", "").skill(0, 0), 1);
        faulty(c, ONE + "person 1 0 0;", 2, 27);
    }

    static void promise03AHundredIsTheMostSkill(Check c) {
        c.due("100", of(ONE + "person 1 0 100;", "").skill(0, 0), 100);
        faulty(c, ONE + "person 1 0 101;", 2, 27);
    }

    static void promise03APersonMayKnowNothingAndAll(Check c) {
        c.due("nothing", of(SIX + "person 1;", "").person(0, 4), 0);
        c.due("all", of(SIX + "person 1 5 1 4 1 3 1 2 1 1 1 0 1;", "").person(0, 4), 63);
    }

    static void promise03ATradeOfAPersonThatWasNotToldIsFault2(Check c) {
        faulty(c, "person 1 0 50;", 2, 9);
        faulty(c, ONE + "person 1 1 50;", 2, 25);
        faulty(c, SIX + "person 1 6 50;", 2, 105);
    }

    static void promise03ATradeOfAPersonAgainIsFault4(Check c) {
        faulty(c, TWO + "person 1 0 50 0 50;", 4, 53);
        faulty(c, TWO + "person 1 0 50 1 50 0 0;", 4, 58);
        stands(c, TWO + "person 1 0 50;person 1 0 50;", 2);
    }

    static void promise03ATradeWithoutSkillIsFault1(Check c) {
        faulty(c, TWO + "person 1 0;", 1, 49);
    }

    static void promise03LikesAPersonToldAhead(Check c) {
        stands(c, ONE + "person 1;likes 0 0 5;person 2;likes 1 0 5;", 2);
        faulty(c, ONE + "likes 0 0 5;", 2, 22);
        faulty(c, ONE + "person 1;likes 1 0 5;person 1;", 2, 31);
    }

    static void promise03LikesATradeToldAhead(Check c) {
        c.due("the last", of(TWO + "person 1;likes 0 1 5;", "").like(0, 1), 5);
        faulty(c, TWO + "person 1;likes 0 2 5;", 2, 56);
        faulty(c, "person 1;likes 0 0 5;", 2, 17);
    }

    static void promise03LikeMayBeNought(Check c) {
        c.due("0", of(ONE + "person 1;likes 0 0 0;", "").like(0, 0), 0);
        stands(c, ONE + "person 1;likes 0 0 0;", 1);
    }

    static void promise03NinetyNineIsTheMostLike(Check c) {
        c.due("99", of(ONE + "person 1;likes 0 0 99;", "").like(0, 0), 99);
        faulty(c, ONE + "person 1;likes 0 0 100;", 2, 35);
    }

    static void promise03ALikeToldAgainIsFault4(Check c) {
        faulty(c, TWO + "person 1;likes 0 0 0;likes 0 1 5;likes 0 0 0;", 4, 80);
    }

    static void promise03LikesOfOtherPairsStand(Check c) {
        ForgottenCrafts x = of(TWO + "person 1;person 1;likes 0 0 1;likes 0 1 2;likes 1 0 3;likes 1 1 4;", "");
        row(c, "like", new int[] {x.like(0, 0), x.like(0, 1), x.like(1, 0), x.like(1, 1)}, 1, 2, 3, 4);
    }

    static void promise03AsManyLikesAsAFullTextHoldsStand(Check c) {
        StringBuilder text = new StringBuilder("trade back1 0;".repeat(5) + "person0;".repeat(7));
        for (int k = 0; k < 34; k++) {
            text.append("likes").append(k / 5).append(' ').append(k % 5).append(' ').append(k % 9 + 1).append(';');
        }
        c.due("bytes", text.length(), 500);
        ForgottenCrafts x = new ForgottenCrafts();
        c.due("34 likes", Check.town(x, text.toString()), 7);
        row(c, "like", new int[] {x.like(0, 0), x.like(6, 3), x.like(6, 4)}, 1, 7, 0);
        c.due("34 likes again", Check.town(x, text.toString()), 7);
    }

    static void promise03AClauseWithoutItsEndIsFault1(Check c) {
        faulty(c, "trade plain 1 1", 1, 15);
        faulty(c, "trade plain 1 1 person 1;", 1, 16);
        faulty(c, "person 1", 1, 8);
        faulty(c, ONE + "person 1;likes 0 0 0", 1, 36);
    }

    static void promise03AnEndWithoutItsClauseIsFault1(Check c) {
        faulty(c, ";", 1, 0);
        faulty(c, ONE + ";", 1, 16);
    }

    static void promise03AClauseWithTooFewNumbersIsFault1(Check c) {
        faulty(c, "trade plain 1;", 1, 13);
        faulty(c, "trade plain;", 1, 11);
        faulty(c, ONE + "trade plain 1 1 needs;", 1, 37);
        faulty(c, "person;", 1, 6);
        faulty(c, ONE + "person 1;likes 0 0;", 1, 34);
        faulty(c, ONE + "person 1;likes 0;", 1, 32);
        faulty(c, "likes;", 1, 5);
    }

    static void promise03AClauseWithTooManyNumbersIsFault1(Check c) {
        faulty(c, "trade plain 1 1 1;", 1, 16);
        faulty(c, ONE + "person 1;likes 0 0 0 0;", 1, 37);
    }
}
