/** Promises 2 to 5: texts, what they become, and the first fault of each. */
final class FaultTests {
    private static final Check CHECK = new Check("FaultTests");
    private static final String TWO = "trade plain 1 1;trade half 9 0 needs 0;";

    public static void main(String[] args) {
        feeding();
        soundTowns();
        faultyTowns();
        fullTowns();
        soundLaws();
        faultyLaws();
        whatTownTakesAway();
        oneTownBehindAnother();
        CHECK.end();
    }

    private static void townFault(String text, int fault, int place) {
        ForgottenCrafts x = Check.of("trade back 3 7;person 9 0 9;likes 0 0 8;", "holds 3;");
        String before = Check.all(x);
        CHECK.due("town of " + text, Check.town(x, text), -10 - fault);
        CHECK.due("fault of " + text, x.fault(), place);
        CHECK.due("text behind " + text, x.told(10), 0);
        CHECK.isTrue("all else as it was behind " + text,
                Check.all(x).equals(before.replace("fault -1", "fault " + place)));
    }

    private static void lawFault(String text, int fault, int place) {
        ForgottenCrafts x = Check.of(TWO, "holds 5;witnesses 3;fades 7;rusts 8;dies 9;lent;");
        String before = Check.all(x);
        CHECK.due("laws of " + text, Check.laws(x, text), -10 - fault);
        CHECK.due("fault of " + text, x.fault(), place);
        CHECK.isTrue("all else as it was behind " + text,
                Check.all(x).equals(before.replace("fault -1", "fault " + place)));
    }

    private static void sound(String text, int people) {
        ForgottenCrafts x = new ForgottenCrafts();
        Check.town(x, "odd");
        CHECK.due("town of " + text, Check.town(x, text), people);
        CHECK.due("fault of " + text, x.fault(), Check.NONE);
    }

    private static void feeding() {
        ForgottenCrafts x = new ForgottenCrafts();
        CHECK.due("feed 0", x.feed(0, 5L), Check.OUTSIDE);
        CHECK.due("feed 9", x.feed(9, 5L), Check.OUTSIDE);
        CHECK.due("feed least", x.feed(Integer.MIN_VALUE, 5L), Check.OUTSIDE);
        CHECK.due("feed 3 of more", x.feed(3, 0x7a7a6c656e000000L | 0x7a7a7aL), 3);
        CHECK.due("town of zzz", x.town(), -11);
        CHECK.due("highest first", x.feed(8, 0x706572736f6e2037L), 8);
        CHECK.due("one more", x.feed(1, 0x3bL), 9);
        CHECK.due("town", x.town(), 1);
        CHECK.due("age", x.person(0, 0), 7);
        CHECK.due("byte 255", x.feed(1, -1L), 1);
        CHECK.due("byte 255 cannot stand", x.town(), -11);
        for (int i = 1; i <= 62; i++) {
            CHECK.due("feed 8", x.feed(8, 0x2020202020202020L), 8 * i);
        }
        CHECK.due("feed 5 of 4", x.feed(5, 0L), Check.FULL);
        CHECK.due("OUTSIDE ahead of FULL", x.feed(9, 0L), Check.OUTSIDE);
        CHECK.due("told 10", x.told(10), 496);
        CHECK.due("feed 4 of 4", x.feed(4, 0x20202020L), 500);
        CHECK.due("feed 1 of none", x.feed(1, 0L), Check.FULL);
        CHECK.due("laws of 500", x.laws(), Check.NOT);
        CHECK.due("the text stays", x.told(10), 500);
        CHECK.due("the fault stays", x.fault(), 0);
        CHECK.due("blanks are no town", x.town(), 0);
        CHECK.due("no fault", x.fault(), Check.NONE);
        CHECK.due("no text", x.told(10), 0);
    }

    private static void soundTowns() {
        sound("", 0);
        sound("   ", 0);
        sound("person 0;", 1);
        sound("person99;person007 ; person 1;", 3);
        sound("trade plain1 0;", 0);
        sound("  trade  forbidden  9  99  ;  trade half 1 1needs 0 ; person 3 1 100 0 001 ;likes 0 1 0;likes0 0 99;", 1);
        sound("trade plain 3 20needs0;".replace("needs0", ""), 0);
        sound("trade plain 1 1;person 1;likes 0 0 5;person 2;likes 1 0 5;", 2);
        ForgottenCrafts x = Check.of("trade plain 2 3;trade back 4 5 needs 0;trade half 6 7;trade forbidden 8 9 needs 2;person 1;", "");
        for (int t = 0; t < 4; t++) {
            CHECK.due("kind", x.trade(t, 0), t);
            CHECK.due("years", x.trade(t, 1), 2 * t + 2);
            CHECK.due("worth", x.trade(t, 2), 2 * t + 3);
            CHECK.due("needs", x.trade(t, 3), t % 2 == 0 ? Check.NONE : t - 1);
        }
    }

    private static void faultyTowns() {
        townFault(";", 1, 0);
        townFault("  7", 1, 2);
        townFault("Trade plain 1 1;", 1, 0);
        townFault("tradeplain 1 1;", 1, 0);
        townFault("trad", 1, 0);
        townFault("tradez plain 1 1;", 1, 0);
        townFault("trade plainz 1 1;", 1, 6);
        townFault("trade plain 1 1a;", 1, 15);
        townFault("trade plain 9 09 0;", 1, 17);
        townFault("trades plain 1 1;", 1, 0);
        townFault("trade", 1, 5);
        townFault("trade  ", 1, 7);
        townFault("trade plai 1 1;", 1, 6);
        townFault("trade 1 1;", 1, 6);
        townFault("trade 1000 1;", 1, 6);
        townFault("trade plain;", 1, 11);
        townFault("trade plain 0 1;", 2, 12);
        townFault("trade plain 10 1;", 2, 12);
        townFault("trade plain 0001 1;", 2, 12);
        townFault("trade plain 1 100;", 2, 14);
        townFault("trade plain 1 99999999999;", 2, 14);
        townFault("trade plain 11;", 2, 12);
        townFault("trade plain 1;", 1, 13);
        townFault("trade plain 1 1", 1, 15);
        townFault("trade plain 1 1 1;", 1, 16);
        townFault("trade plain 1 1 need 0;", 1, 16);
        townFault("trade plain 1 1 needs 0;", 2, 22);
        townFault("trade plain 1 1 needs;", 1, 21);
        townFault(TWO + "trade plain 1 1 needs 2;", 2, TWO.length() + 22);
        townFault(TWO + "trade plain 1 1 needs 1 1;", 1, TWO.length() + 24);
        townFault(TWO + "trade plain 1 1 needs 0001;", 2, TWO.length() + 22);
        townFault("trade\tplain 1 1;", 1, 5);
        townFault("trade plain 1 1;;", 1, 16);
        townFault("trade plain -1 1;", 1, 12);
        townFault("person;", 1, 6);
        townFault("person 100;", 2, 7);
        townFault("person 1 0 5;", 2, 9);
        townFault("person 1 plain;", 1, 9);
        townFault("person 1", 1, 8);
        townFault("person 1;trade plain 1 1;", 1, 9);
        townFault(TWO + "person 1 0;", 1, TWO.length() + 10);
        townFault(TWO + "person 1 0 0;", 2, TWO.length() + 11);
        townFault(TWO + "person 1 0 101;", 2, TWO.length() + 11);
        townFault(TWO + "person 1 2 50;", 2, TWO.length() + 9);
        townFault(TWO + "person 1 0 50 0 50;", 4, TWO.length() + 14);
        townFault(TWO + "person 1 0 50 1 50 1", 4, TWO.length() + 19);
        townFault(TWO + "person 1 0 50 1 50 0000 1;", 2, TWO.length() + 19);
        townFault(TWO + "likes 0 0 0;", 2, TWO.length() + 6);
        townFault(TWO + "person 1;likes 1 0 0;", 2, TWO.length() + 15);
        townFault(TWO + "person 1;likes 0 2 0;", 2, TWO.length() + 17);
        townFault(TWO + "person 1;likes 0 0 100;", 2, TWO.length() + 19);
        townFault(TWO + "person 1;likes 0 0;", 1, TWO.length() + 18);
        townFault(TWO + "person 1;likes 0 0 0;likes 0 0", 4, TWO.length() + 29);
        townFault(TWO + "person 1;likes 0 0 0;trade plain 1 1;", 1, TWO.length() + 21);
        townFault("likes;", 1, 5);
    }

    private static void fullTowns() {
        String six = "trade plain 1 1;".repeat(6);
        sound(six, 0);
        townFault(six + "trade odd", 3, six.length());
        townFault(six + "person 1 0 1 1 1 2 1 3 1 4 1 5 1 0 1;", 4, six.length() + 33);
        townFault(six + "person 1 0 1 1 1 2 1 3 1 4 1 5 1 6 1;", 2, six.length() + 33);
        sound(six + "person 1 0 1 1 1 2 1 3 1 4 1 5 1;", 1);
        String eight = "person 1;".repeat(8);
        sound(eight, 8);
        townFault(eight + "person", 3, 72);
        townFault(six + eight + "trade", 1, six.length() + 72);
        townFault(eight + "likes", 1, 77);
    }

    private static void lawsAre(ForgottenCrafts x, int... due) {
        for (int i = 0; i < due.length; i++) {
            CHECK.due("told " + (4 + i), x.told(4 + i), due[i]);
        }
    }

    private static void soundLaws() {
        ForgottenCrafts x = new ForgottenCrafts();
        lawsAre(x, 2, 2, 25, 5, 70, 0);
        CHECK.due("laws", Check.laws(x, " lent;dies 120 ;rusts0;fades 100;witnesses 0;holds 6;"), 6);
        lawsAre(x, 6, 0, 100, 0, 120, 1);
        CHECK.due("laws", Check.laws(x, "rusts 100;fades 1;witnesses 3;holds 1;dies 1;"), 5);
        lawsAre(x, 1, 3, 1, 100, 1, 0);
        CHECK.due("laws", Check.laws(x, "dies 119;"), 1);
        lawsAre(x, 2, 2, 25, 5, 119, 0);
        CHECK.due("empty laws", x.laws(), 0);
        lawsAre(x, 2, 2, 25, 5, 70, 0);
        CHECK.due("200 bytes", Check.laws(x, "lent;" + " ".repeat(195)), 1);
        Check.feed(x, "lent;" + " ".repeat(196));
        CHECK.due("201 bytes", x.laws(), Check.NOT);
        CHECK.due("the text stays", x.told(10), 201);
        lawsAre(x, 2, 2, 25, 5, 70, 1);
    }

    private static void faultyLaws() {
        lawFault("law 1;", 1, 0);
        lawFault(";", 1, 0);
        lawFault("lent;;", 1, 5);
        lawFault("lent;7;", 1, 5);
        lawFault("holds 3;holdsz 3;", 1, 8);
        lawFault("holds;", 1, 5);
        lawFault("holds", 1, 5);
        lawFault("holds 0;", 2, 6);
        lawFault("holds 7;", 2, 6);
        lawFault("holds 1", 1, 7);
        lawFault("holds 1 1;", 1, 8);
        lawFault("witnesses 4;", 2, 10);
        lawFault("fades 0;", 2, 6);
        lawFault("fades 101;", 2, 6);
        lawFault("rusts 101;", 2, 6);
        lawFault("dies 0;", 2, 5);
        lawFault("dies 121;", 2, 5);
        lawFault("dies 0070;", 2, 5);
        lawFault("lent 1;", 1, 5);
        lawFault("lent", 1, 4);
        lawFault("lent;lent;", 3, 5);
        for (String clause : new String[] {"holds 1;", "witnesses 1;", "fades 1;", "rusts 1;", "dies 1;"}) {
            lawFault(clause + "lent;" + clause, 3, clause.length() + 5);
        }
        lawFault("trade plain 1 1;", 1, 0);
    }

    private static void whatTownTakesAway() {
        ForgottenCrafts x = Check.of(TWO + "person 30 0 90;", "holds 3;");
        x.seed(77);
        x.want(0, 2);
        x.make(0, 5);
        x.write(0, 0, 5);
        x.year(3);
        x.keep(0);
        x.keep(1);
        CHECK.due("town", Check.town(x, TWO + "person 30 1 90;person 1;"), 2);
        CHECK.due("year", x.told(3), 0);
        CHECK.due("wants", x.trade(0, 6), 0);
        CHECK.due("made", x.told(11), 0);
        CHECK.due("book", x.told(12), 0);
        CHECK.due("image 0", x.goBack(0), Check.NOT);
        CHECK.due("image 1", x.goBack(1), Check.NOT);
        CHECK.due("laws", x.told(4), 3);
        CHECK.due("seed", x.seed(0), 77);
        CHECK.due("earned", x.person(0, 5), 0);
        CHECK.due("lives", x.told(2), 3);
    }

    private static void oneTownBehindAnother() {
        StringBuilder town = new StringBuilder("trade half1 0;".repeat(5) + "person1;".repeat(6));
        for (int k = 0; k < 30; k++) {
            town.append("likes").append(k / 5).append(' ').append(k % 5).append(' ').append(k % 9 + 1).append(';');
        }
        ForgottenCrafts x = new ForgottenCrafts();
        CHECK.due("30 likes", Check.town(x, town.toString()), 6);
        CHECK.due("30 likes again", Check.town(x, town.toString()), 6);
        CHECK.due("like", x.like(5, 4), 3);
        CHECK.due("a faulty one", Check.town(x, town + "likes 5 4 1"), -14);
        CHECK.due("fewer", Check.town(x, TWO + "person 3;person 4 1 5;"), 2);
        CHECK.due("live", x.told(2), 3);
        CHECK.due("trades", x.told(0), 2);
        CHECK.due("nobody likes anything", x.like(0, 0) + x.like(0, 1) + x.like(1, 0) + x.like(1, 1), 0);
        CHECK.due("skill of none other", x.skill(1, 0), 0);
        CHECK.due("empty", x.town(), 0);
        CHECK.due("nobody", x.told(2), 0);
        CHECK.due("no trade", x.told(0), 0);
    }
}
