/** The boundary cases that "SETUP TEXTS" names. */
final class SetupSentences extends Asked {
    private static final String HOUSE = "house 1 2 3 4 5";

    // ---- the text buffer and its tokens

    @Holds(where = "Terms, SETUP TEXTS", sentence = "A setup is an ASCII text that is collected in a text buffer of at most 700 bytes.")
    static void aSetupOf700Bytes() {
        loads(times(12, "house 99 99 150 999 9 quiet 10 47 ;") + times(35, "seed 7; "), 12);
        loads(times(699, " ") + "\n", 0);
        errs(times(699, " ") + "x", 1, 699);
        errs(times(693, " ") + "seed 77", 1, 700);
    }

    @Holds(where = "Terms, SETUP TEXTS", sentence = "words (maximal runs of the letters a to z)")
    static void wordsAreMaximalRuns() {
        loads("day48;" + HOUSE + "quiet1 2;set0 7;seed0;news0 0;", 1);
        errs("seedseed 1;", 1, 0);
        errs("see d 1;", 1, 0);
        errs("see", 1, 0);
        errs("seeds 1;", 1, 0);
        errs("deed 1;", 1, 0);
        errs("mouse 1 2 3 4 5;", 1, 0);
        errs("seed1;zay", 1, 6);
        errs("hous", 1, 0);
        errs("houses 1 2 3 4 5;", 1, 0);
        errs("a", 1, 0);
        errs("z", 1, 0);
    }

    @Holds(where = "Terms, SETUP TEXTS", sentence = "words (maximal runs of the letters a to z)")
    static void bytesBesideTheLettersBelongToNoToken() {
        errs("seed`1;", 1, 4);
        errs("seed{1;", 1, 4);
        errs("seed 1;`", 1, 7);
        errs("seed 1;{", 1, 7);
        errs("Seed 1;", 1, 0);
        errs("seedD 1;", 1, 4);
        errs("seed 1;SEED 1;", 1, 7);
        errs("seed 1;s\u00e9", 1, 7);
        errs("seed 1;seed\u00e9", 1, 11);
    }

    @Holds(where = "Terms, SETUP TEXTS", sentence = "numbers (maximal runs of the digits 0 to 9)")
    static void numbersAreMaximalRuns() {
        due("0 and 9 are digits", 909090, loaded("seed 909090;").count(9));
        due("one number", 12, loaded("seed 12;").count(9));
        errs("seed 1 2;", 1, 7);
        errs("seed /1;", 1, 5);
        errs("seed 1/;", 1, 6);
        errs("seed 1:;", 1, 6);
        errs("seed :1;", 1, 5);
        errs("seed -1;", 1, 5);
        errs("seed +1;", 1, 5);
        errs("seed 1.0;", 1, 6);
        errs("seed 1x;", 1, 6);
    }

    @Holds(where = "Terms, SETUP TEXTS", sentence = "and the symbol ;.")
    static void theSymbolAlone() {
        errs(";", 1, 0);
        errs("seed 1;;", 1, 7);
        errs("seed 1:", 1, 6);
        errs("seed 1,", 1, 6);
        errs("seed;1", 1, 4);
        loads("seed 1;seed 2;", 0);
    }

    @Holds(where = "Terms, SETUP TEXTS", sentence = "Spaces (byte 32) and line feeds (byte 10) may stand before, between and behind tokens.")
    static void blanksBeforeBetweenAndBehind() {
        VillageWaves v = loaded(" \n seed\n \n77 \n;\n\n seed  78\n; \n ");
        due("X", 78, v.count(9));
        loads(" ", 0);
        loads("\n", 0);
        loads("  day 30 ; ", 0);
        errs("se ed 1;", 1, 0);
        errs("seed 1 0;", 1, 7);
    }

    @Holds(where = "Terms, SETUP TEXTS", sentence = "Spaces (byte 32) and line feeds (byte 10) may stand before, between and behind tokens.")
    static void noOtherByteIsBlank() {
        for (int other = 0; other < 256; other++) {
            char sign = (char) other;
            boolean isToken = sign >= 'a' && sign <= 'z' || sign >= '0' && sign <= '9' || sign == ';';
            if (other == 32 || other == 10) {
                loads("seed 1" + sign + ";", 0);
            } else if (!isToken) {
                errs("seed 1" + sign + ";", 1, 6);
                errs(sign + "seed 1;", 1, 0);
                errs("seed 1;" + sign, 1, 7);
            }
        }
    }

    @Holds(where = "Terms, SETUP TEXTS", sentence = "Numbers may have any number of digits.")
    static void manyDigits() {
        due("leading zeros", 7, loaded("seed " + times(693, "0") + "7;").count(9));
        due("zeros alone", 0, loaded("seed " + times(600, "0") + ";").count(9));
        due("zeros ahead of all", 2, loaded("day 00000000000000000000000000000030;house 00000000000000000000000000099 0 00 "
                + "0000000000000000000000000001 00000000009;house 0 0 0 0 1;").count(6));
        errs("seed " + times(690, "9") + ";", 2, 5);
        errs("seed 1" + times(600, "0") + ";", 2, 5);
    }

    @Holds(where = "Terms, SETUP TEXTS", sentence = "Numbers may have any number of digits.")
    static void greatNumbersDoNotWrapAround() {
        String[] great = {"2147483647", "2147483648", "4294967295", "4294967296", "4294967297", "4294967337", "8589934592",
            "9223372036854775807", "9223372036854775808", "18446744073709551615", "18446744073709551616",
            "18446744073709551617", "18446744073709551657", "36893488147419103233", "340282366920938463463374607431768211457"};
        for (String number : great) {
            errs("seed " + number + ";", 2, 5);
            errs("seed 000" + number + ";", 2, 5);
            errs("day " + number + ";", 2, 4);
            errs("house " + number + " 2 3 4 5;", 2, 6);
            errs("set " + number + " 5;", 2, 4);
            errs("set 0 " + number + ";", 2, 6);
            errs("house 1 2 3 4 5;news " + number + " 5;", 2, 21);
            errs("house 1 2 3 4 5 quiet " + number + " 5;", 2, 22);
        }
    }

    // ---- setup and statement

    @Holds(where = "Terms, SETUP TEXTS", sentence = "setup = [ \"day\" DAY \";\" ] { statement \";\" }")
    static void nothingAtAllIsASetup() {
        loads("", 0);
        VillageWaves v = new VillageWaves();
        v.addHouse(1, 1, 1, 1, 1);
        due("load of no text", 0, v.load());
        due("it replaced the house", 0, v.count(6));
        loads("day 30;", 0);
        loads("seed 1;", 0);
    }

    @Holds(where = "Terms, SETUP TEXTS", sentence = "setup = [ \"day\" DAY \";\" ] { statement \";\" }")
    static void dayStandsFirstAndOnce() {
        due("DAY", 30, loaded("day 30;seed 1;").count(5));
        errs("seed 1;day 30;", 1, 7);
        errs("day 30;day 30;", 1, 7);
        errs("day 30 30;", 1, 7);
        errs("day;", 1, 3);
        errs("day x;", 1, 4);
        errs("day 30 seed 1;", 1, 7);
    }

    @Holds(where = "Terms, SETUP TEXTS", sentence = "setup = [ \"day\" DAY \";\" ] { statement \";\" }")
    static void eachStatementEndsWithItsSymbol() {
        errs(HOUSE, 1, 15);
        errs(HOUSE + " " + HOUSE + ";", 1, 16);
        errs("seed 1 seed 2;", 1, 7);
        errs("set 0 1 set 1 1;", 1, 8);
        errs(HOUSE + ";news 0 1 news 0 1;", 1, 25);
        errs("7;", 1, 0);
        errs("quiet 1 2;", 1, 0);
    }

    @Holds(where = "Terms, SETUP TEXTS", sentence = "statement = \"house\" X Y RANGE BATTERY SHARE [ \"quiet\" A B ]")
    static void aHouseHasFiveNumbersAndPerhapsTwo() {
        loads(HOUSE + ";", 1);
        loads(HOUSE + " quiet 6 7;", 1);
        errs("house 1 2 3 4;", 1, 13);
        errs("house;", 1, 5);
        errs(HOUSE + " 6;", 1, 16);
        errs(HOUSE + " quiet;", 1, 21);
        errs(HOUSE + " quiet 6;", 1, 23);
        errs(HOUSE + " quiet 6 7 8;", 1, 26);
        errs(HOUSE + " quiet 6 7 quiet 6 7;", 1, 26);
        errs(HOUSE + " quite 6 7;", 1, 16);
        errs(HOUSE + " day 6 7;", 1, 16);
    }

    @Holds(where = "Terms, SETUP TEXTS", sentence = "statement = \"house\" X Y RANGE BATTERY SHARE [ \"quiet\" A B ]")
    static void theNumbersOfAHouseHaveTheirRanges() {
        loads("house 0 0 0 0 1;house 99 99 150 999 9;", 2);
        errs("house 100 2 3 4 5;", 2, 6);
        errs("house 1 100 3 4 5;", 2, 8);
        errs("house 1 2 151 4 5;", 2, 10);
        errs("house 1 2 3 1000 5;", 2, 12);
        errs("house 1 2 3 4 0;", 2, 14);
        errs("house 1 2 3 4 10;", 2, 14);
    }

    @Holds(where = "Terms, SETUP TEXTS", sentence = "| \"set\" WHAT VALUE | \"seed\" X | \"news\" HOUSE BODY")
    static void otherStatementsHaveTheirNumbers() {
        errs("set;", 1, 3);
        errs("set 0;", 1, 5);
        errs("set 0 1 2;", 1, 8);
        errs("seed;", 1, 4);
        errs(HOUSE + ";news;", 1, 20);
        errs(HOUSE + ";news 0;", 1, 22);
        errs(HOUSE + ";news 0 1 2;", 1, 25);
        VillageWaves v = loaded("set 4 0;set 4 11;set 4 3;" + HOUSE + ";news 0 0;news 0 99;");
        due("the latest VALUE", 3, v.count(4));
        due("BODY 0", 0, v.news(0, 2));
        due("BODY 99", 99, v.news(1, 2));
        errs(HOUSE + ";news 0 100;", 2, 23);
        errs("set 5 1;", 2, 4);
    }

    @Holds(where = "Terms, SETUP TEXTS", sentence = "A and B are minutes of a day.")
    static void quietHoursEndWithTheDay() {
        loads(HOUSE + " quiet 0 47;", 1);
        errs(HOUSE + " quiet 48 1;", 2, 22);
        errs(HOUSE + " quiet 1 48;", 2, 24);
        loads("day 24;" + HOUSE + " quiet 23 0;", 1);
        errs("day 24;" + HOUSE + " quiet 24 0;", 2, 29);
        errs("day 24;" + HOUSE + " quiet 23 24;", 2, 32);
        loads("day 240;" + HOUSE + " quiet 239 239;", 1);
        errs("day 240;" + HOUSE + " quiet 240 0;", 2, 30);
        errs("day 240;" + HOUSE + " quiet 239 240;", 2, 34);
        due("A", 23, loaded("day 24;" + HOUSE + " quiet 23 0;").house(0, 5));
        due("B", 0, loaded("day 24;" + HOUSE + " quiet 23 0;").house(0, 6));
    }

    @Holds(where = "Terms, SETUP TEXTS", sentence = "X of \"seed\" is 0 to 1000002.")
    static void boundsOfSeed() {
        due("least", 0, loaded("seed 0;").count(9));
        due("most", 1000002, loaded("seed 1000002;").count(9));
        errs("seed 1000003;", 2, 5);
        errs("seed 9999999;", 2, 5);
        due("the latest one", 5, loaded("seed 0;seed 5;").count(9));
    }

    @Holds(where = "Terms, SETUP TEXTS", sentence = "\"news\" is done as by tell() at the time 0;")
    static void newsAreToldAtTheTimeZero() {
        VillageWaves v = new VillageWaves();
        v.run(77);
        v.ahead(5, 0);
        write(v, "house 0 0 9 99 1;house 1 0 9 99 1;news 1 5;set 4 0;");
        v.load();
        due("the time", 0, v.count(8));
        dueNews(v, 0, 1, 0, 5, NONE, NONE, NONE, 0b10, 0, 0, 0);
        dueEntry(v, 1, 0, 0, 0, 0, 0, 1);
        due("its entry alone", 1, v.count(13));
    }

    @Holds(where = "Terms, SETUP TEXTS", sentence = "HOUSE is a house that was told ahead.")
    static void theHouseOfANewsWasToldAhead() {
        due("the first one", 0, loaded(HOUSE + ";" + HOUSE + ";news 0 1;").news(0, 0));
        due("the latest one", 1, loaded(HOUSE + ";" + HOUSE + ";news 1 1;").news(0, 0));
        errs("news 0 1;", 2, 5);
        errs("news 0 1;" + HOUSE + ";", 2, 5);
        errs(HOUSE + ";news 1 1;", 2, 21);
        errs(HOUSE + ";news 1 1;" + HOUSE + ";", 2, 21);
        errs(HOUSE + ";news 12 1;", 2, 21);
        due("the 12th", 11, loaded(times(12, "house 0 0 0 0 1;") + "news 11 1;").news(0, 0));
        errs(times(12, "house 0 0 0 0 1;") + "news 12 1;", 2, 197);
    }

    // ---- errors

    @Holds(where = "Terms, SETUP TEXTS", sentence = "the parser reads the tokens from the first one on and stops at the first token that is wrong.")
    static void theFirstWrongTokenCounts() {
        errs("seed 1000003 x;", 2, 5);
        errs("seed x 1000003;", 1, 5);
        errs("seed 1000003#", 2, 5);
        errs("house 100 100 151 1000 10;", 2, 6);
        errs("house 1 2 3 4 10", 2, 14);
        errs("seed 1;day 23;", 1, 7);
        errs("set 5 999", 2, 4);
        errs("sEed 1;", 1, 0);
    }

    @Holds(where = "Terms, SETUP TEXTS", sentence = "The error position is the index of its first byte, or the length of the text if the text ends too early.")
    static void positionOfAnError() {
        errs("x", 1, 0);
        errs("   x", 1, 3);
        errs("\n\nxyz", 1, 2);
        errs("seed   1000003;", 2, 7);
        errs("seed 0001000003;", 2, 5);
        errs("day 30;quiet", 1, 7);
    }

    @Holds(where = "Terms, SETUP TEXTS", sentence = "or the length of the text if the text ends too early.")
    static void positionOfAnEndThatComesTooEarly() {
        errs("day", 1, 3);
        errs("day 30", 1, 6);
        errs("day 30  \n ", 1, 10);
        errs("seed", 1, 4);
        errs("seed ", 1, 5);
        errs("house 1 2 3 4", 1, 13);
        errs(HOUSE + " quiet 1", 1, 23);
        errs(HOUSE + " quiet 1 2", 1, 25);
        errs(HOUSE + ";news", 1, 20);
        errs(times(695, " ") + "seed", 1, 699);
        errs(times(694, " ") + "seed\n\n", 1, 700);
    }

    @Holds(where = "Terms, SETUP TEXTS", sentence = "The error code, of several at one token the least, is 1 if the token is not allowed there,")
    static void whatIsNotAllowedIsTheLeastOfSeveral() {
        errs("seed 1 1000003;", 1, 7);
        errs("999999999;", 1, 0);
        errs("day 30 241;", 1, 7);
        String houses = times(12, "house 0 0 0 0 1;");
        errs(houses + "seed house;", 1, 197);
        errs(houses + "seed 1 house", 1, 199);
        errs(times(11, "house 0 0 0 0 1;") + "house 0 0 0 0 house", 1, 190);
        errs("house 0 0 0 0 1;" + times(20, "news 0 0;") + "seed 1 news", 1, 203);
        errs("house 0 0 0 0 1;" + times(19, "news 0 0;") + "news 0 0 news", 1, 196);
    }

    @Holds(where = "Terms, SETUP TEXTS", sentence = "if a byte belongs to no token, or if the text ends too early;")
    static void aByteOfNoTokenAndTheEndAreCodeOne() {
        errs("#", 1, 0);
        errs("seed #", 1, 5);
        errs("seed 7#", 1, 6);
        errs("seed 7;#", 1, 7);
        errs("seed\u0000 7;", 1, 4);
        errs("seed 7", 1, 6);
        errs("seed", 1, 4);
        errs(times(12, "house 0 0 0 0 1;") + "#", 1, 192);
    }

    @Holds(where = "Terms, SETUP TEXTS", sentence = "2 if a number is out of its range;")
    static void aNumberOutOfItsRangeIsCodeTwo() {
        errs("day 23;", 2, 4);
        errs("day 241;", 2, 4);
        errs("house 1 2 3 4 0;", 2, 14);
        errs("set 0 0;", 2, 6);
        errs("set 3 0;", 2, 6);
        errs("news 0 1;", 2, 5);
        errs(HOUSE + ";news 0 100;", 2, 23);
    }

    @Holds(where = "Terms, SETUP TEXTS", sentence = "3 for the word \"house\" of a 13th house,")
    static void theWordOfA13thHouse() {
        String houses = times(12, "house 0 0 0 0 1;");
        loads(houses, 12);
        errs(houses + "house 0 0 0 0 1;", 3, 192);
        errs(houses + " house", 3, 193);
        errs(houses + "house 100 x", 3, 192);
        errs(houses + "seed 7;house#", 3, 199);
        errs(houses + "hous", 1, 192);
        errs(houses + "houses", 1, 192);
    }

    @Holds(where = "Terms, SETUP TEXTS", sentence = "and the word \"news\" of a 21st news.")
    static void theWordOfA21stNews() {
        String news = "house 0 0 0 0 1;" + times(20, "news 0 0;");
        loads(news, 1);
        errs(news + "news 0 0;", 3, 196);
        errs(news + "\nnews", 3, 197);
        errs(news + "news 5 x", 3, 196);
        errs(news + "new", 1, 196);
        errs(news + "newss", 1, 196);
    }
}
