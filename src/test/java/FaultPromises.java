/** Promises 4 and 5: the laws that a text becomes, and the place of the first fault of a text. */
final class FaultPromises extends Promises {
    private static final String ONE = "trade plain 1 1;", SIX = ONE.repeat(6);
    private static final String ALL_LAWS = "holds 5;witnesses 3;fades 7;rusts 8;dies 9;lent;";

    private static ForgottenCrafts lawful() {
        return of(ONE + "person 5 0 9;", ALL_LAWS);
    }

    private static void stand(Check c, String text, int clauses) {
        ForgottenCrafts x = lawful();
        c.due("laws of " + text, Check.laws(x, text), clauses);
        c.due("their fault", x.fault(), NONE);
    }

    /** What a law is when told so; a fault in its number leaves it as it was. */
    private static void law(Check c, String text, int what, int due) {
        c.due(text, of("", text).told(what), due);
    }

    private static void faulty(Check c, String text, int number, int place) {
        ForgottenCrafts x = lawful();
        String before = Check.all(x);
        c.due("laws of " + text, Check.laws(x, text), -10 - number);
        c.due("place in " + text, x.fault(), place);
        c.isTrue("they are as they were behind " + text, Check.all(x).equals(before.replace("fault -1", "fault " + place)));
    }

    private static void faultyTown(Check c, String text, int number, int place) {
        ForgottenCrafts x = new ForgottenCrafts();
        c.due("town of " + text, Check.town(x, text), -10 - number);
        c.due("place in " + text, x.fault(), place);
    }

    private static int[] laws(ForgottenCrafts x) {
        return new int[] {x.told(4), x.told(5), x.told(6), x.told(7), x.told(8), x.told(9)};
    }

    // ---- promise 4

    static void promise04AnEmptyTextIsLawsUntold(Check c) {
        ForgottenCrafts x = lawful();
        c.due("clauses", x.laws(), 0);
        row(c, "law", laws(x), 2, 2, 25, 5, 70, 0);
    }

    static void promise04BlanksAloneAreLawsUntold(Check c) {
        stand(c, "  ", 0);
        row(c, "law", laws(of("", " ")), 2, 2, 25, 5, 70, 0);
    }

    static void promise04ALawThatIsUntoldIsNotAsItWas(Check c) {
        ForgottenCrafts x = lawful();
        c.due("one clause", Check.laws(x, "dies 120;"), 1);
        row(c, "law", laws(x), 2, 2, 25, 5, 120, 0);
    }

    static void promise04AllSixClausesInAnyOrder(Check c) {
        ForgottenCrafts x = lawful();
        c.due("six", Check.laws(x, " lent;dies 119 ;rusts9;fades 6;witnesses 1;holds 4;"), 6);
        row(c, "law", laws(x), 4, 1, 6, 9, 119, 1);
    }

    static void promise04TheTextIsEmptyThen(Check c) {
        ForgottenCrafts x = lawful();
        Check.laws(x, "lent;");
        c.due("bytes", x.told(10), 0);
    }

    static void promise04TheTextIsEmptyWithAFaultToo(Check c) {
        ForgottenCrafts x = lawful();
        Check.laws(x, "lent");
        c.due("bytes", x.told(10), 0);
    }

    static void promise04TwoHundredBytesAreTheMost(Check c) {
        stand(c, " ".repeat(195) + "lent;", 1);
        faulty(c, " ".repeat(199) + "x", 1, 199);
    }

    static void promise04MoreThanTwoHundredBytesAreNot(Check c) {
        ForgottenCrafts x = lawful();
        Check.feed(x, "holds 1;" + " ".repeat(193));
        refused(c, x, NOT, x::laws);
        c.due("the text stays", x.told(10), 201);
        Check.feed(x, " ".repeat(299));
        refused(c, x, NOT, x::laws);
        c.due("the text stays", x.told(10), 500);
    }

    static void promise04ATextThatIsNotLawsMayBeATown(Check c) {
        ForgottenCrafts x = lawful();
        Check.feed(x, " ".repeat(201) + "person 1;person 1;");
        c.due("laws", x.laws(), NOT);
        c.due("town", x.town(), 2);
    }

    static void promise04WithAFaultTheyAreAsTheyWere(Check c) {
        faulty(c, "holds 1;witnesses 1;fades 1;rusts 1;dies 1;x", 1, 43);
        faulty(c, "holds 1;holds 2;", 3, 8);
        faulty(c, "holds 1;dies 121;", 2, 13);
    }

    static void promise04AFaultAnswersTenLessItsNumber(Check c) {
        ForgottenCrafts x = new ForgottenCrafts();
        c.due("1", Check.laws(x, "x"), -11);
        c.due("2", Check.laws(x, "holds 7;"), -12);
        c.due("3", Check.laws(x, "lent;lent;"), -13);
    }

    static void promise04LawsChangeNothingElse(Check c) {
        ForgottenCrafts x = lawful();
        x.year(2);
        x.want(0, 3);
        String before = Check.all(x);
        Check.laws(x, "lent;");
        Check.laws(x, ALL_LAWS);
        c.isTrue("all else as it was", Check.all(x).equals(before));
    }

    static void promise04HoldsFromOneToSix(Check c) {
        law(c, "holds 1;", 4, 1);
        law(c, "holds 6;", 4, 6);
        faulty(c, "holds 0;", 2, 6);
        faulty(c, "holds 7;", 2, 6);
    }

    static void promise04HoldsUntoldIsTwo(Check c) {
        law(c, "lent;", 4, 2);
    }

    static void promise04WitnessesFromNoughtToThree(Check c) {
        law(c, "witnesses 0;", 5, 0);
        law(c, "witnesses 3;", 5, 3);
        faulty(c, "witnesses 4;", 2, 10);
    }

    static void promise04WitnessesUntoldAreTwo(Check c) {
        law(c, "lent;", 5, 2);
    }

    static void promise04FadesFromOneToAHundred(Check c) {
        law(c, "fades 1;", 6, 1);
        law(c, "fades 100;", 6, 100);
        faulty(c, "fades 0;", 2, 6);
        faulty(c, "fades 101;", 2, 6);
    }

    static void promise04FadesUntoldIsTwentyFive(Check c) {
        law(c, "lent;", 6, 25);
    }

    static void promise04RustsFromNoughtToAHundred(Check c) {
        law(c, "rusts 0;", 7, 0);
        law(c, "rusts 100;", 7, 100);
        faulty(c, "rusts 101;", 2, 6);
    }

    static void promise04RustsUntoldIsFive(Check c) {
        law(c, "lent;", 7, 5);
    }

    static void promise04DiesFromOneToAHundredAndTwenty(Check c) {
        law(c, "dies 1;", 8, 1);
        law(c, "dies 120;", 8, 120);
        faulty(c, "dies 0;", 2, 5);
        faulty(c, "dies 121;", 2, 5);
    }

    static void promise04DiesUntoldIsSeventy(Check c) {
        law(c, "lent;", 8, 70);
    }

    static void promise04LentIsToldOrNot(Check c) {
        law(c, "lent;", 9, 1);
        law(c, "holds 2;", 9, 0);
        faulty(c, "lent 1;", 1, 5);
    }

    static void promise04AClauseToldAlreadyIsFault3(Check c) {
        for (String clause : new String[] {"holds 1;", "witnesses 1;", "fades 1;", "rusts 1;", "dies 1;", "lent;"}) {
            String other = clause.equals("lent;") ? "dies 1;" : "lent;";
            faulty(c, clause + other + clause, 3, clause.length() + other.length());
        }
    }

    static void promise04AClauseWithoutItsNumberIsFault1(Check c) {
        for (String word : new String[] {"holds", "witnesses", "fades", "rusts", "dies"}) {
            faulty(c, word + ";", 1, word.length());
            faulty(c, word, 1, word.length());
        }
    }

    static void promise04AClauseWithTwoNumbersIsFault1(Check c) {
        for (String word : new String[] {"holds", "witnesses", "fades", "rusts", "dies"}) {
            faulty(c, word + " 1 1;", 1, word.length() + 3);
        }
    }

    static void promise04AClauseWithoutItsEndIsFault1(Check c) {
        faulty(c, "lent", 1, 4);
        faulty(c, "holds 1", 1, 7);
        faulty(c, "holds 1 lent;", 1, 8);
    }

    static void promise04AnEndWithoutItsClauseIsFault1(Check c) {
        faulty(c, ";", 1, 0);
        faulty(c, "lent;;", 1, 5);
    }

    static void promise04WordsOfTownsCannotStand(Check c) {
        faulty(c, ONE, 1, 0);
        faulty(c, "lent;person 1;", 1, 5);
        faulty(c, "likes 0 0 0;", 1, 0);
    }

    // ---- promise 5

    static void promise05NoneAtFirst(Check c) {
        c.due("fault", new ForgottenCrafts().fault(), NONE);
    }

    static void promise05NoneBehindASoundTown(Check c) {
        ForgottenCrafts x = new ForgottenCrafts();
        Check.town(x, "x");
        Check.town(x, "person 1;");
        c.due("fault", x.fault(), NONE);
        Check.town(x, " x");
        x.town();
        c.due("of an empty text", x.fault(), NONE);
    }

    static void promise05NoneBehindSoundLaws(Check c) {
        ForgottenCrafts x = new ForgottenCrafts();
        Check.laws(x, "x");
        Check.laws(x, "lent;");
        c.due("fault", x.fault(), NONE);
        Check.town(x, " x");
        Check.laws(x, "  ");
        c.due("of blanks", x.fault(), NONE);
    }

    static void promise05TheLatestOfTownsAndLawsIsTold(Check c) {
        ForgottenCrafts x = new ForgottenCrafts();
        Check.town(x, " x");
        c.due("the town's", x.fault(), 1);
        Check.laws(x, "  x");
        c.due("the laws'", x.fault(), 2);
        Check.town(x, "x");
        c.due("the town's", x.fault(), 0);
    }

    static void promise05LawsThatAreNotLeaveItAsItWas(Check c) {
        ForgottenCrafts x = new ForgottenCrafts();
        Check.town(x, "   x");
        Check.feed(x, "x" + " ".repeat(200));
        x.laws();
        c.due("as it was", x.fault(), 3);
        Check.feed(new ForgottenCrafts(), "x");
        ForgottenCrafts sound = new ForgottenCrafts();
        Check.feed(sound, "x" + " ".repeat(200));
        sound.laws();
        c.due("none as it was", sound.fault(), NONE);
    }

    static void promise05NothingElseChangesIt(Check c) {
        ForgottenCrafts x = small("");
        Check.town(x, "    x");
        x.feed(1, 59L);
        x.year(1);
        x.begin();
        c.due("as it was", x.fault(), 4);
    }

    static void promise05TheFirstByteIsNought(Check c) {
        faultyTown(c, "x", 1, 0);
        faulty(c, "x", 1, 0);
    }

    static void promise05TheEndIsAtTheTextsLength(Check c) {
        faultyTown(c, "trade", 1, 5);
        faultyTown(c, "person 1   ", 1, 11);
        faultyTown(c, "person 1" + " ".repeat(492), 1, 500);
        faulty(c, "lent" + " ".repeat(196), 1, 200);
    }

    static void promise05OfSeveralTheFirstByte(Check c) {
        faultyTown(c, "person 100 x;", 2, 7);
        faultyTown(c, "person 1 x 100;", 1, 9);
        faultyTown(c, ONE + "person 1 0 1 0 1 7;x", 4, 29);
        faultyTown(c, SIX + "trade x;", 3, 96);
        faulty(c, "lent;lent x", 3, 5);
        faulty(c, "holds 9;holds", 2, 6);
    }

    static void promise05OfASeventhTradeBehindAPersonTheLeast(Check c) {
        faultyTown(c, SIX + "person 1;trade", 1, 105);
    }

    static void promise05OfALongNumberWhereNoneCanStandTheLeast(Check c) {
        faultyTown(c, "1000", 1, 0);
        faultyTown(c, "trade 1000 1;", 1, 6);
        faultyTown(c, "trade plain 1 1 1000;", 1, 16);
        faulty(c, "lent 1000;", 1, 5);
    }

    static void promise05OfATradeAgainInFourFiguresTheLeast(Check c) {
        faultyTown(c, ONE + "person 1 0 1 0000 1;", 2, 29);
        faultyTown(c, ONE + "person 1;likes 0 0 1;likes 0 0000 1;", 2, 45);
    }

    static void promise05OfAWordToldAlreadyWhereItCannotStandTheLeast(Check c) {
        faultyTown(c, SIX + "person 1 trade", 1, 105);
        faultyTown(c, "person 1;".repeat(8) + "likes person", 1, 78);
        faulty(c, "lent lent;", 1, 5);
    }

    static void promise05AWordThatCannotStandAtItsFirstLetter(Check c) {
        faultyTown(c, " town 1;", 1, 1);
        faultyTown(c, "trades plain 1 1;", 1, 0);
        faultyTown(c, "trad", 1, 0);
        faultyTown(c, "trade plai 1 1;", 1, 6);
        faultyTown(c, "trade plainer 1 1;", 1, 6);
        faultyTown(c, "tradeplain 1 1;", 1, 0);
        faultyTown(c, ONE + "trade plain 1 1 need 0;", 1, 32);
        faultyTown(c, "holds 1;", 1, 0);
        faulty(c, "lent;hold 1;", 1, 5);
        faulty(c, "holdss 1;", 1, 0);
    }

    static void promise05AWordOfWhichOneLetterIsAnotherCannotStand(Check c) {
        faultyTown(c, "grade plain 1 1;", 1, 0);
        faultyTown(c, "trace plain 1 1;", 1, 0);
        faultyTown(c, "trade slain 1 1;", 1, 6);
        faultyTown(c, "trade plait 1 1;", 1, 6);
        faultyTown(c, ONE + "trade plain 1 1 feeds 0;", 1, 32);
        faultyTown(c, "persow 1;", 1, 0);
        faultyTown(c, "person 1;hikes 0 0 0;", 1, 9);
        faulty(c, "molds 1;", 1, 0);
        faulty(c, "sent;", 1, 0);
    }

    static void promise05LettersAreSmallOnesFromAToZ(Check c) {
        for (char sign : new char[] {'`', '{', 'A', 'Z'}) {
            faultyTown(c, "person 1;" + sign, 1, 9);
            faultyTown(c, "trade plain" + sign + " 1 1;", 1, 11);
        }
        faultyTown(c, "Trade plain 1 1;", 1, 0);
        faultyTown(c, "persona 1;", 1, 0);
        faultyTown(c, "personz 1;", 1, 0);
        faultyTown(c, "trade plain 1 1a;", 1, 15);
        faultyTown(c, "trade plain 1 1z;", 1, 15);
        faultyTown(c, "trade azaz 1 1;", 1, 6);
    }

    static void promise05FiguresAreFromNoughtToNine(Check c) {
        for (char sign : new char[] {'/', ':'}) {
            faultyTown(c, "person 1" + sign + ";", 1, 8);
            faultyTown(c, "person " + sign + ";", 1, 7);
        }
        c.due("09", of("person 09;", "").person(0, 0), 9);
        c.due("90", of("person 90;", "").person(0, 0), 90);
    }

    static void promise05TheEndOfAClauseIsOneSignAlone(Check c) {
        faultyTown(c, "person 1:", 1, 8);
        faultyTown(c, "person 1<", 1, 8);
    }

    static void promise05BlanksAre32Alone(Check c) {
        for (int sign : new int[] {0, 9, 10, 13, 31, 33, 127, 160, 255}) {
            faultyTown(c, "person " + (char) sign + "1;", 1, 7);
            faultyTown(c, (char) sign + "person 1;", 1, 0);
            faulty(c, "lent;" + (char) sign, 1, 5);
        }
    }

    static void promise05BlanksMayStandAnywhereElse(Check c) {
        ForgottenCrafts x = of("  trade  plain  3  7  ;  trade half 1 1needs 0 ; person 3  1 100 0 001 ;  likes 0 1 8 ;likes0 0 9;  ", "");
        row(c, "as told", new int[] {x.fault(), x.told(0), x.told(1), x.trade(0, 2), x.trade(1, 3), x.skill(0, 0), x.like(0, 1), x.like(0, 0)},
                NONE, 2, 1, 7, 0, 1, 8, 9);
        stand(c, "  lent  ;  holds  1  ;  ", 2);
    }

    static void promise05ABlankWithinAWordMakesTwo(Check c) {
        faultyTown(c, "tra de plain 1 1;", 1, 0);
        faultyTown(c, "trade pla in 1 1;", 1, 6);
        faulty(c, "le nt;", 1, 0);
    }

    static void promise05ABlankWithinANumberMakesTwo(Check c) {
        faultyTown(c, "person 1 0;", 2, 9);
        faulty(c, "dies 7 0;", 1, 7);
    }

    static void promise05AWordAndANumberNeedNoBlank(Check c) {
        c.due("person", Check.town(new ForgottenCrafts(), "person7;"), 1);
        c.due("trade", Check.town(new ForgottenCrafts(), "trade back1 0;trade back1 0needs0;"), 0);
        stand(c, "holds1;dies2;", 2);
    }

    static void promise05TwoNumbersSideBySideNeedABlank(Check c) {
        faultyTown(c, "trade plain 11;", 2, 12);
        faultyTown(c, "trade plain 1 1;person 1 050;", 2, 25);
    }

    static void promise05NumbersHaveOneToThreeFigures(Check c) {
        c.due("1", of("person 1;", "").person(0, 0), 1);
        c.due("01", of("person 01;", "").person(0, 0), 1);
        c.due("001", of("person 001;", "").person(0, 0), 1);
        c.due("099", of("person 099;", "").person(0, 0), 99);
    }

    static void promise05FourFiguresAreFault2AtTheFirst(Check c) {
        faultyTown(c, "person 0001;", 2, 7);
        faultyTown(c, "person 99999999999999999999;", 2, 7);
        faultyTown(c, "trade plain 4294967297 1;", 2, 12);
        faulty(c, "dies 0070;", 2, 5);
    }

    static void promise05ANumberOutOfBoundsAtItsFirstFigure(Check c) {
        faultyTown(c, "person   999;", 2, 9);
        faulty(c, "dies   121;", 2, 7);
    }

    static void promise05ATradeAgainAtTheTrade(Check c) {
        faultyTown(c, ONE + "person 1 0 50   0 50;", 4, 32);
        faultyTown(c, ONE + "person 1;likes 0 0 1;likes 0   0 1;", 4, 47);
    }
}
