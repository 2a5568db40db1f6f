import java.util.Set;
import java.util.TreeSet;
import java.util.function.IntPredicate;
import java.util.function.Supplier;
import java.util.function.ToIntFunction;

/** The boundary cases that "What it is" and "Terms" name, but for the setup texts: see SetupSentences. */
final class TermsSentences extends Asked {
    // ---- What it is

    @Holds(where = "What it is", sentence = "An object is used for at most 512 calls after it has been made")
    static void the512thCallAnswers() {
        VillageWaves v = new VillageWaves();
        for (int call = 1; call <= 511; call++) {
            due("run", 0, v.run(500));
        }
        due("the time at the 512th call", 255500, v.count(8));
    }

    @Holds(where = "What it is", sentence = "An object is used for at most 512 calls after it has been made")
    static void theDearestCallAnswersAlikeUpToThe512th() {
        VillageWaves v = new VillageWaves();
        for (int house = 0; house < 12; house++) {
            v.addHouse(50, 50, 0, 999, 1 + house % 9);
        }
        for (int call = 13; call <= 512; call++) {
            due("bestAuthor at call " + call, 0, v.bestAuthor(200));
        }
    }

    // ---- The public face

    @Holds(where = "Terms", sentence = "The constants: `NONE = -1`: There is none.")
    static void noneIsMinusOne() {
        due("NONE", -1, VillageWaves.NONE);
    }

    // ---- HOUSES

    @Holds(where = "Terms, HOUSES", sentence = "There are at most 12 houses, numbered from 0.")
    static void twelveHousesFromZero() {
        VillageWaves v = new VillageWaves();
        for (int house = 0; house < 12; house++) {
            due("number", house, v.addHouse(3 * house, 0, 0, 0, 1));
        }
        refused("a 13th", STATE, () -> v.addHouse(0, 0, 0, 0, 1));
        due("houses", 12, v.count(6));
        due("the last one", 33, v.house(11, 0));
        refused("house 12", INDEX, () -> v.house(12, 0));
        refused("house -1", INDEX, () -> v.house(-1, 0));
    }

    @Holds(where = "Terms, HOUSES", sentence = "A house has a place (x and y, 0 to 99), a RANGE (0 to 150), "
            + "a battery (0 to 999), a SHARE (1 to 9) and perhaps quiet hours.")
    static void leastAndMostOfAHouseAreKept() {
        VillageWaves v = loaded("house 0 0 0 0 1 quiet 0 47;house 99 99 150 999 9;");
        v.addHouse(0, 0, 0, 0, 1);
        v.addHouse(99, 99, 150, 999, 9);
        dueHouse(v, 0, 0, 0, 0, 0, 1, 0, 47);
        dueHouse(v, 1, 99, 99, 150, 999, 9, NONE, NONE);
        dueHouse(v, 2, 0, 0, 0, 0, 1, NONE, NONE);
        dueHouse(v, 3, 99, 99, 150, 999, 9, NONE, NONE);
    }

    @Holds(where = "Terms, HOUSES", sentence = "Another house is in its range if the sum of the squares of the "
            + "differences of their x and of their y is at most the square of its RANGE.")
    static void justInRangeAndJustBeyond() {
        VillageWaves v = loaded("set 1 0;house 50 50 5 99 1;house 53 54 0 0 1;house 45 50 0 0 1;house 50 45 0 0 1;"
                + "house 55 51 0 0 1;house 50 56 0 0 1;house 44 50 0 0 1;news 0 1;");
        due("25 is in, 26 and 36 are not", 0b1110, v.house(0, 14));
        v.run(1);
        due("so they hear", 0b1110, v.spoken(0, 4));
        due("so hops go", 1, v.hops(0, 1));
        due("and do not go", NONE, v.hops(0, 4));
    }

    @Holds(where = "Terms, HOUSES", sentence = "Another house is in its range if the sum of the squares of the "
            + "differences of their x and of their y is at most the square of its RANGE.")
    static void fromCornerToCorner() {
        VillageWaves v = loaded("house 0 99 140 0 1;house 99 0 141 0 1;house 99 0 150 0 1;");
        due("19602 is beyond 140", 0, v.house(0, 14));
        due("and within 141", 0b101, v.house(1, 14));
        due("and within 150", 0b11, v.house(2, 14));
    }

    @Holds(where = "Terms, HOUSES", sentence = "Another house is in its range if the sum of the squares of the "
            + "differences of their x and of their y is at most the square of its RANGE.")
    static void rangeZeroReachesTheSamePlaceButNeverItself() {
        VillageWaves v = loaded("house 5 5 0 0 1;house 5 5 0 0 1;house 5 6 0 0 1;house 5 5 150 0 1;");
        due("the same place", 0b1010, v.house(0, 14));
        due("likewise", 0b1001, v.house(1, 14));
        due("one beside it", 0, v.house(2, 14));
        due("all but itself", 0b111, v.house(3, 14));
        due("a house alone", 0, loaded("house 5 5 150 0 1;").house(0, 14));
    }

    @Holds(where = "Terms, HOUSES", sentence = "(So one house can be in the range of another one, and not the "
            + "other way round.)")
    static void rangeOfOneSide() {
        VillageWaves v = line();
        due("1 reaches 0 and 2", 0b101, v.house(1, 14));
        due("2 reaches none", 0, v.house(2, 14));
        v.tell(2, 1);
        v.run(1);
        due("nobody hears 2", 0, v.spoken(0, 4));
        v.tell(1, 1);
        v.run(1);
        due("2 hears 1", 0b101, v.spoken(0, 4));
    }

    @Holds(where = "Terms, HOUSES", sentence = "Time is a number of minutes, 0 at first; a day has DAY minutes, "
            + "and the minute of the day is the time modulo DAY.")
    static void minuteOfTheDayWrapsAround() {
        for (int day : new int[] {24, 48, 240}) {
            VillageWaves v = loaded("day " + day + ";house 0 0 0 0 1 quiet 0 0;house 0 0 0 0 1 quiet "
                    + (day - 1) + " " + (day - 1) + ";");
            due("the time at first", 0, v.count(8));
            due("minute 0", 0b01, v.count(11));
            v.run(1);
            due("minute 1", 0, v.count(11));
            v.run(day - 2);
            due("the last minute of the day", 0b10, v.count(11));
            v.run(1);
            due("minute 0 of the next day", 0b01, v.count(11));
            due("the time goes on", day, v.count(8));
            v.run(day - 1);
            due("the last minute of the next day", 0b10, v.count(11));
            v.run(1);
            due("minute 0 of the third day", 0b01, v.count(11));
        }
    }

    @Holds(where = "Terms, HOUSES", sentence = "if A is not greater than B, a house is quiet at the minutes from A to B")
    static void quietFromAToB() {
        int[][] hours = {{3, 7}, {0, 0}, {5, 5}, {23, 23}, {0, 23}, {0, 1}, {22, 23}, {11, 12}};
        for (int[] ab : hours) {
            quietAtEachMinute(ab[0], ab[1], minute -> minute >= ab[0] && minute <= ab[1]);
        }
    }

    @Holds(where = "Terms, HOUSES", sentence = "otherwise at those from A on and those up to B.")
    static void quietFromAOnAndUpToB() {
        int[][] hours = {{7, 3}, {1, 0}, {23, 0}, {23, 22}, {12, 11}, {22, 1}, {13, 11}};
        for (int[] ab : hours) {
            quietAtEachMinute(ab[0], ab[1], minute -> minute >= ab[0] || minute <= ab[1]);
        }
    }

    private static void quietAtEachMinute(int a, int b, IntPredicate isQuiet) {
        VillageWaves v = loaded("day 24;house 0 0 0 99 1 quiet " + a + " " + b + ";news 0 0;");
        for (int minute = 0; minute < 26; minute++) {
            int quiet = isQuiet.test(minute % 24) ? 1 : 0;
            due("quiet from " + a + " to " + b + " at " + minute, quiet, v.house(0, 7));
            due("as a set, at " + minute, quiet, v.count(11));
            v.run(1);
        }
    }

    // ---- NEWS

    @Holds(where = "Terms, NEWS", sentence = "There are at most 20 news, numbered from 0.")
    static void twentyNewsFromZero() {
        VillageWaves v = loaded("house 0 0 0 0 1;");
        for (int news = 0; news < 20; news++) {
            due("number", news, v.tell(0, news));
        }
        due("a 21st", -2, v.tell(0, 20));
        due("news", 20, v.count(7));
        due("the last one", 19, v.news(19, 2));
        due("all are known", 0xFFFFF, v.house(0, 10));
        refused("news 20", INDEX, () -> v.news(20, 0));
        refused("news -1", INDEX, () -> v.news(-1, 0));
    }

    @Holds(where = "Terms, NEWS", sentence = "A news has an author (a house), the time when it was told, a BODY "
            + "(0 to 99), and, if it was corrected, the BODY of its correction (0 to 99), the house that corrected "
            + "it and the time when it did.")
    static void leastAndMostOfANewsAreKept() {
        VillageWaves v = line();
        v.tell(0, 0);
        v.tell(2, 99);
        dueNews(v, 0, 0, 0, 0, NONE, NONE, NONE);
        dueNews(v, 1, 2, 0, 99, NONE, NONE, NONE);
        v.correct(0, 0, 99);
        dueNews(v, 0, 0, 0, 0, 99, 0, 0);
        v.run(10);
        v.correct(2, 1, 0);
        dueNews(v, 1, 2, 0, 99, 0, 2, 10);
    }

    @Holds(where = "Terms, NEWS", sentence = "A house knows a news, its correction, both, or none of both.")
    static void oneBothOrNone() {
        VillageWaves v = correctionHeardWithoutTheNews();
        due("houses that know the news", 0b0011, v.news(0, 6));
        due("houses that know the correction", 0b0101, v.news(0, 7));
        int[][] known = {{1, 1, 0}, {1, 0, 1}, {0, 1, 0}, {0, 0, 0}};
        for (int house = 0; house < 4; house++) {
            for (int what = 0; what < 3; what++) {
                due("house " + house + " knows " + what, known[house][what], v.house(house, 10 + what));
            }
        }
    }

    /** At the time 2: 0 knows news and correction, 1 the news alone, 2 the correction alone, 3 none of both. */
    private static VillageWaves correctionHeardWithoutTheNews() {
        VillageWaves v = loaded("house 0 0 10 99 1;house 10 0 10 99 1;house 5 0 0 99 1 quiet 0 0;house 50 50 0 99 1;news 0 1;");
        v.run(1);
        v.charge(1, -999);
        v.correct(0, 0, 9);
        v.run(1);
        return v;
    }

    @Holds(where = "Terms, NEWS", sentence = "A house that gets a news gets it from another house, its source for "
            + "this news (the author has none).")
    static void theFirstSpeakerIsTheSource() {
        VillageWaves v = loaded("house 0 0 9 99 1;house 1 0 9 99 1;house 2 0 9 99 1;house 60 0 9 99 1;news 0 1;");
        due("ahead of it", NONE, v.source(1, 0));
        due("all three speak", 3, v.run(3));
        due("the author, that heard it again", NONE, v.source(0, 0));
        due("a hearer", 0, v.source(1, 0));
        due("a hearer that heard it twice", 0, v.source(2, 0));
        due("one that did not get it", NONE, v.source(3, 0));
    }

    @Holds(where = "Terms, NEWS", sentence = "Two houses are linked by a news if one of them is the source of the "
            + "other one for it.")
    static void linkedBothWaysButNotByHearingAgain() {
        VillageWaves v = loaded("house 0 0 9 99 1;house 1 0 9 99 1;house 2 0 9 99 1;news 0 1;");
        v.run(3);
        v.save(0);
        due("1 is linked to its source alone", 1, v.correct(1, 0, 5));
        due("which is 0", 0b001, v.owes(1, 0));
        v.restore(0);
        due("0 is linked to both", 2, v.correct(0, 0, 5));
        due("as their source", 0b110, v.owes(0, 0));
    }

    @Holds(where = "Terms, NEWS", sentence = "A house that knows a correction owes it to each house that it is "
            + "linked to by its news and that does not know the correction.")
    static void owesOnlyWhatItKnowsToThoseThatDoNot() {
        VillageWaves v = told();
        due("not corrected", 0, v.owes(1, 0));
        v.correct(0, 0, 1);
        due("0 owes 1", 0b010, v.owes(0, 0));
        due("1 does not know it", 0, v.owes(1, 0));
        v.run(1);
        due("1 knows it", 0, v.owes(0, 0));
        due("1 owes 2, not 0 that knows it", 0b100, v.owes(1, 0));
        due("2 does not know it", 0, v.owes(2, 0));
        v.run(1);
        due("all know it", 0, v.owes(1, 0));
        due("2 owes nobody", 0, v.owes(2, 0));
        due("not linked", 0, correctionHeardWithoutTheNews().owes(2, 0));
    }

    // ---- QUEUES

    @Holds(where = "Terms, QUEUES", sentence = "A house has at most one entry for a news and one for its correction.")
    static void newsHeardAgainMakesNoSecondEntry() {
        VillageWaves v = loaded("house 0 0 9 99 1;house 1 0 9 99 1;house 2 0 9 99 1;news 0 1;");
        v.run(2);
        int other = 3 - v.spoken(0, 1);
        due("one entry is left", 1, v.count(13));
        due("of the one that did not speak", 1, v.house(other, 13));
        dueEntry(v, other, 0, 0, 0, 0, 1, 1);
        v.run(1);
        due("none comes back", 0, v.count(13));
    }

    @Holds(where = "Terms, QUEUES", sentence = "A house has at most one entry for a news and one for its correction.")
    static void correctionHeardAgainMakesNoSecondEntry() {
        VillageWaves v = correctionSentTwice();
        due("1 heard it again", 0b10, v.spoken(0, 4));
        due("and did not learn it again", 0, v.spoken(0, 5));
        due("one entry", 1, v.house(1, 13));
        dueEntry(v, 1, 0, 1, 0, 10, NONE, 1);
    }

    /** At the time 12: 0 sent the correction at 10 and 11, as 3 cannot hear it; 1 heard both, and owes 2. */
    private static VillageWaves correctionSentTwice() {
        VillageWaves v = loaded("house 10 0 10 100 1;house 20 0 10 100 1;house 30 0 10 100 1;house 0 0 10 100 1;news 0 1;");
        v.run(10);
        due("0 owes 1 and 3", 2, v.correct(0, 0, 9));
        v.charge(3, -999);
        v.charge(2, -999);
        v.charge(1, -999);
        v.charge(1, 3);
        v.run(2);
        return v;
    }

    @Holds(where = "Terms, QUEUES", sentence = "The order of the entries: corrections come ahead of news;")
    static void laterCorrectionComesAheadOfEarlierNews() {
        VillageWaves v = told();
        v.charge(0, -999);
        v.tell(0, 2);
        v.run(1);
        v.correct(0, 0, 9);
        dueEntry(v, 0, 0, 1, 0, 11, NONE, 1);
        dueEntry(v, 0, 1, 0, 1, 10, 0, 1);
        v.charge(0, 99);
        v.run(1);
        due("it is sent first", 1, v.spoken(0, 2));
    }

    @Holds(where = "Terms, QUEUES", sentence = "then those with the lower time;")
    static void lowerTimeComesAheadOfLowerNumber() {
        VillageWaves v = loaded("house 0 0 10 0 1;house 5 0 0 1 1;news 0 1;news 1 2;");
        v.run(3);
        v.charge(0, 5);
        v.run(1);
        dueEntry(v, 1, 0, 0, 1, 0, 0, 1);
        dueEntry(v, 1, 1, 0, 0, 3, 1, 1);
        v.charge(1, 99);
        v.run(1);
        due("it is sent first", 1, v.spoken(0, 3));
    }

    @Holds(where = "Terms, QUEUES", sentence = "then those with the lower time;")
    static void ofCorrectionsTooTheLowerTimeComesFirst() {
        VillageWaves v = twoNewsSpread();
        v.charge(0, -999);
        v.correct(0, 1, 9);
        v.run(1);
        v.correct(0, 0, 9);
        dueEntry(v, 0, 0, 1, 1, 40, NONE, 1);
        dueEntry(v, 0, 1, 1, 0, 41, NONE, 1);
        v.charge(0, 99);
        v.run(1);
        due("it is sent first", 1, v.spoken(0, 3));
    }

    @Holds(where = "Terms, QUEUES", sentence = "then those for the news with the lower number.")
    static void atTheSameTimeTheLowerNumberComesFirst() {
        VillageWaves v = loaded("house 0 0 0 99 1;news 0 1;news 0 2;news 0 3;");
        for (int news = 0; news < 3; news++) {
            dueEntry(v, 0, news, 0, news, 0, 0, 1);
        }
        v.run(3);
        for (int news = 0; news < 3; news++) {
            due("sent at " + news, news, v.spoken(2 - news, 3));
        }
        VillageWaves both = twoNewsSpread();
        both.correct(0, 1, 9);
        both.correct(0, 0, 9);
        dueEntry(both, 0, 0, 1, 0, 40, NONE, 1);
        dueEntry(both, 0, 1, 1, 1, 40, NONE, 1);
        both.run(1);
        due("of corrections too", 0, both.spoken(0, 3));
    }

    /** At the time 40: the line knows the news 0 and 1 of house 0, and all was sent. */
    private static VillageWaves twoNewsSpread() {
        VillageWaves v = line();
        v.tell(0, 1);
        v.tell(0, 2);
        v.run(40);
        return v;
    }

    @Holds(where = "Terms, QUEUES", sentence = "An entry for a news can be sent;")
    static void newsCanBeSentThoughNobodyIsInRange() {
        VillageWaves v = loaded("house 0 0 0 99 1;news 0 1;");
        due("it can", 1, v.entry(0, 0, 4));
        due("and is", 1, v.run(1));
        due("nobody heard it", 0, v.spoken(0, 4));
    }

    @Holds(where = "Terms, QUEUES", sentence = "an entry for a correction can be sent if a house to which it is owed is in range.")
    static void owedHouseAtTheEdgeOfTheRange() {
        VillageWaves in = owedToTheFarHouse(5);
        due("just in range", 1, in.entry(0, 0, 4));
        due("it wishes to speak", 0b01, in.wishes());
        due("and does", 1, in.run(10));
        VillageWaves out = owedToTheFarHouse(4);
        due("just beyond", 0, out.entry(0, 0, 4));
        due("no wish", 0, out.wishes());
        due("nobody speaks", 0, out.run(10));
        dueEntry(out, 0, 0, 1, 0, 5, NONE, 0);
    }

    /** At the time 5: house 0 with this RANGE owes a correction to house 1, at a distance of 5. */
    private static VillageWaves owedToTheFarHouse(int range) {
        VillageWaves v = loaded("house 0 0 " + range + " 99 1;house 5 0 9 99 1;news 1 1;");
        v.run(5);
        due("it owes it", 1, v.correct(0, 0, 3));
        return v;
    }

    @Holds(where = "Terms, QUEUES", sentence = "an entry for a correction can be sent if a house to which it is owed is in range.")
    static void aHouseInRangeToWhichItIsNotOwedIsNotEnough() {
        VillageWaves v = owedToTheFarHouse(4);
        v.addHouse(1, 0, 0, 99, 1);
        due("another one in range", 0b100, v.house(0, 14));
        due("it cannot be sent", 0, v.entry(0, 0, 4));
        due("nobody speaks", 0, v.run(10));
    }

    @Holds(where = "Terms, QUEUES", sentence = "an entry for a correction can be sent if a house to which it is owed is in range.")
    static void theOwedHouseMayBeQuietOrEmpty() {
        VillageWaves v = owedToTheFarHouse(5);
        v.charge(1, -999);
        v.setQuiet(1, 0, 47);
        due("it can be sent", 1, v.entry(0, 0, 4));
        due("it is sent", 1, v.run(1));
        due("nobody hears it", 0, v.spoken(0, 4));
    }

    @Holds(where = "Terms, QUEUES", sentence = "When a house learns a correction: its entry for the news (if it has one) is removed;")
    static void learningRemovesTheEntryForTheNews() {
        VillageWaves author = loaded("house 0 0 9 99 1;news 0 1;news 0 2;");
        author.correct(0, 0, 3);
        due("that of the news alone", 1, author.house(0, 13));
        dueEntry(author, 0, 0, 0, 1, 0, 0, 1);
        VillageWaves hearer = told();
        hearer.charge(1, -999);
        hearer.charge(1, 4);
        hearer.tell(0, 5);
        hearer.run(1);
        due("1 has an entry for it", 1, hearer.house(1, 13));
        hearer.correct(0, 1, 6);
        hearer.run(1);
        due("1 learned", 0b010, hearer.spoken(0, 5));
        due("and has none", 0, hearer.house(1, 13));
    }

    @Holds(where = "Terms, QUEUES", sentence = "and if it owes the correction to some house, it has an entry for it, with the present time.")
    static void learningMakesAnEntryOnlyIfSomethingIsOwed() {
        VillageWaves alone = loaded("house 0 0 9 99 1;house 1 0 9 99 1;news 0 1;");
        alone.run(7);
        due("one house", 1, alone.correct(0, 0, 3));
        dueEntry(alone, 0, 0, 1, 0, 7, NONE, 1);
        alone.run(1);
        due("the last one owes nobody, and has none", 0, alone.house(1, 13));
        VillageWaves author = loaded("house 0 0 9 99 1;news 0 1;");
        due("nobody", 0, author.correct(0, 0, 3));
        due("no entry", 0, author.count(13));
        VillageWaves middle = told();
        middle.correct(0, 0, 3);
        middle.charge(2, -999);
        middle.run(1);
        dueEntry(middle, 1, 0, 1, 0, 10, NONE, 1);
    }

    @Holds(where = "Terms, QUEUES", sentence = "When a house gets a news with a number of hops of at most HOPS, it "
            + "has an entry for it with that number of hops and the present time;")
    static void withJustHopsItRelays() {
        for (int hops = 1; hops <= 11; hops++) {
            VillageWaves v = loaded("set 4 " + hops + ";" + chain() + "news 0 1;");
            v.run(hops);
            due("one entry", 1, v.count(13));
            dueEntry(v, hops, 0, 0, 0, hops - 1, hops, 1);
        }
    }

    @Holds(where = "Terms, QUEUES", sentence = "with more hops it knows the news, but has no entry.")
    static void withOneMoreThanHopsItDoesNot() {
        for (int hops = 0; hops <= 10; hops++) {
            VillageWaves v = loaded("set 4 " + hops + ";" + chain() + "news 0 1;");
            due("so many speak", hops + 1, v.run(48));
            due("so many know it", (1 << hops + 2) - 1, v.news(0, 6));
            due("the greatest number", hops + 1, v.news(0, 9));
            due("no entry", 0, v.count(13));
        }
    }

    // ---- A MINUTE

    @Holds(where = "Terms, A MINUTE", sentence = "1. If t is a multiple of DAY and not 0:")
    static void aDayBeginsAtItsMultiplesButNotAtZero() {
        for (int day : new int[] {24, 48, 240}) {
            VillageWaves v = loaded("day " + day + ";set 2 30;house 0 0 0 0 1;");
            v.run(1);
            due("not at 0", 0, v.house(0, 3));
            v.run(day - 1);
            due("not at the last minute", 0, v.house(0, 3));
            v.run(1);
            due("at DAY", 30, v.house(0, 3));
            v.run(day - 1);
            due("not again on this day", 30, v.house(0, 3));
            v.run(1);
            due("at 2 DAY", 60, v.house(0, 3));
        }
    }

    @Holds(where = "Terms, A MINUTE", sentence = "the battery of each house becomes CHARGE greater, but at most 999,")
    static void chargingEndsAt999() {
        VillageWaves v = loaded("set 2 200;house 0 0 0 798 1;house 0 0 0 799 1;house 0 0 0 800 1;house 0 0 0 999 1;"
                + "house 0 0 0 0 1 quiet 0 47;");
        v.run(49);
        int[] batteries = {998, 999, 999, 999, 200};
        for (int house = 0; house < batteries.length; house++) {
            due("battery of " + house, batteries[house], v.house(house, 3));
        }
        VillageWaves none = loaded("set 2 0;house 0 0 0 7 1;house 0 0 0 999 1;");
        none.run(500);
        due("CHARGE 0", 7, none.house(0, 3));
        due("CHARGE 0, full", 999, none.house(1, 3));
    }

    @Holds(where = "Terms, A MINUTE", sentence = "and no house has spoken on this day.")
    static void theCountOfTheDayBeginsAnew() {
        VillageWaves v = loaded("set 3 2;house 0 0 0 99 1;house 9 9 0 99 1;news 0 1;news 0 1;news 0 1;news 1 1;");
        due("QUOTA of 0 and one of 1", 3, v.run(48));
        due("0", 2, v.house(0, 8));
        due("1", 1, v.house(1, 8));
        due("0 may speak again", 1, v.run(1));
        due("0, anew", 1, v.house(0, 8));
        due("1, that was silent", 0, v.house(1, 8));
        due("0, in all", 3, v.house(0, 9));
    }

    @Holds(where = "Terms, A MINUTE", sentence = "2. A house wishes to speak if it is not quiet,")
    static void quietHousesDoNotWish() {
        VillageWaves v = loaded("house 0 0 0 99 1 quiet 1 3;news 0 1;news 0 2;news 0 3;");
        int[] speaks = {1, 0, 0, 0, 1, 1};
        for (int minute = 0; minute < speaks.length; minute++) {
            due("wish at " + minute, speaks[minute], v.wishes());
            due("speech at " + minute, speaks[minute], v.run(1));
        }
    }

    @Holds(where = "Terms, A MINUTE", sentence = "its battery is at least SPEAK,")
    static void justSpeakIsEnough() {
        for (int speak : new int[] {1, 5, 50}) {
            VillageWaves v = loaded("set 0 " + speak + ";house 0 0 0 " + (speak - 1) + " 1;news 0 1;");
            due("one too little", 0, v.wishes());
            due("nobody speaks", 0, v.run(1));
            v.charge(0, 1);
            due("just enough", 1, v.wishes());
            due("it speaks", 1, v.run(1));
            due("it is empty", 0, v.house(0, 3));
        }
    }

    @Holds(where = "Terms, A MINUTE", sentence = "it has spoken in fewer than QUOTA minutes of this day,")
    static void quotaIsTheLastOneOfTheDay() {
        VillageWaves most = chatter();
        due("99 in all", 98, most.run(239));
        due("of this day", 99, most.house(0, 8));
        VillageWaves one = loaded("set 3 1;house 0 0 0 99 1;news 0 1;news 0 2;news 0 3;news 0 4;");
        due("QUOTA 1", 1, one.run(10));
        due("no wish", 0, one.wishes());
        one.set(3, 2);
        due("one fewer than QUOTA 2", 1, one.wishes());
        due("one more", 1, one.run(10));
        one.set(3, 1);
        due("more than QUOTA", 0, one.wishes());
    }

    @Holds(where = "Terms, A MINUTE", sentence = "and it has an entry that can be sent.")
    static void withoutAnEntryNoWish() {
        VillageWaves v = loaded("house 0 0 9 99 1;house 1 0 9 99 1;");
        due("no entries", 0, v.wishes());
        v.tell(1, 1);
        due("1 has one", 0b10, v.wishes());
        v.run(1);
        due("0 got it", 0b01, v.wishes());
        v.run(1);
        due("all is sent", 0, v.wishes());
        VillageWaves out = owedToTheFarHouse(4);
        due("an entry that cannot be sent", 1, out.house(0, 13));
        due("is none", 0, out.wishes());
        out.tell(0, 1);
        due("one behind it can", 1, out.wishes());
    }

    @Holds(where = "Terms, A MINUTE", sentence = "houses are gone through by ascending numbers, each one has as many "
            + "of the numbers from 0 on as its SHARE is, and the one that has the drawn number speaks.")
    static void eachNumberOfADrawHasItsHouse() {
        int[] speakers = {0, 0, 1, 1, 1, 3, 3, 3, 3, 3, 3, 3, 3, 3};
        for (int drawn = 0; drawn < 14; drawn++) {
            VillageWaves v = loaded("house 0 0 0 99 2;house 0 0 0 99 3;house 0 0 0 99 4;house 0 0 0 99 9;"
                    + "news 0 1;news 1 1;news 3 1;seed " + seedFor(14, drawn) + ";");
            due("next of " + drawn, speakers[drawn], v.next());
            v.run(1);
            due("speaker of " + drawn, speakers[drawn], v.spoken(0, 1));
        }
    }

    @Holds(where = "Terms, A MINUTE", sentence = "If houses wish to speak, one of them is drawn:")
    static void oneSpeaksOfNoneOneOrAll() {
        due("of none", 0, loaded(times(12, "house 0 0 0 99 9;")).run(1));
        due("of one", 1, loaded(times(12, "house 0 0 0 99 9;") + "news 11 1;").run(1));
        VillageWaves v = loaded(times(12, "house 0 0 0 99 9;"));
        for (int house = 0; house < 12; house++) {
            v.tell(house, 1);
        }
        due("of all", 1, v.run(1));
        int spoke = 0;
        for (int house = 0; house < 12; house++) {
            spoke += v.house(house, 9);
        }
        due("one alone", 1, spoke);
        due("its entry alone was sent", 11, Integer.bitCount(v.news(v.spoken(0, 3), 6)) - 1);
    }

    @Holds(where = "Terms, A MINUTE", sentence = "a draw by the sum of their SHAREs;")
    static void theLastNumberOfTheGreatestDraw() {
        VillageWaves v = loaded(times(12, "house 0 0 0 99 9;"));
        for (int house = 0; house < 12; house++) {
            v.tell(house, 1);
        }
        for (int drawn = 0; drawn < 108; drawn += drawn % 9 == 0 ? 8 : 1) {
            v.seed(seedFor(108, drawn));
            due("next of " + drawn, drawn / 9, v.next());
        }
        v.run(1);
        due("107", 11, v.spoken(0, 1));
    }

    @Holds(where = "Terms, A MINUTE", sentence = "3. The house that speaks sends its first entry that can be sent:")
    static void anEntryThatCannotBeSentIsPassedOver() {
        VillageWaves news = owedToTheFarHouse(4);
        news.tell(0, 7);
        dueEntry(news, 0, 0, 1, 0, 5, NONE, 0);
        dueEntry(news, 0, 1, 0, 1, 5, 0, 1);
        news.run(1);
        dueSpoken(news, 0, 5, 0, 0, 1, 0, 0);
        dueEntry(news, 0, 0, 1, 0, 5, NONE, 0);
        due("it stays alone", 1, news.house(0, 13));
        VillageWaves later = owedToTheFarHouse(4);
        later.addHouse(4, 0, 0, 4, 1);
        later.tell(0, 7);
        later.run(1);
        due("a correction that can be sent", 1, later.correct(0, 1, 8));
        dueEntry(later, 0, 1, 1, 1, 6, NONE, 1);
        later.run(1);
        dueSpoken(later, 0, 6, 0, 1, 1, 0b100, 0b100);
    }

    @Holds(where = "Terms, A MINUTE", sentence = "its battery becomes SPEAK less.")
    static void speakingTakesSpeak() {
        VillageWaves v = loaded("set 0 50;house 0 0 0 999 1;house 0 0 0 50 1;news 0 1;");
        v.run(1);
        due("the speaker", 949, v.house(0, 3));
        VillageWaves least = loaded("set 0 1;set 1 0;house 0 0 0 1 1;news 0 1;");
        least.run(1);
        due("to 0", 0, least.house(0, 3));
    }

    @Holds(where = "Terms, A MINUTE", sentence = "Each house in its range that is not quiet and whose battery is at least LISTEN hears it,")
    static void justListenIsEnoughToHear() {
        for (int listen : new int[] {0, 1, 20}) {
            VillageWaves v = loaded("set 1 " + listen + ";house 0 0 9 99 1;house 9 0 0 " + Math.max(0, listen - 1)
                    + " 1;house 9 0 0 " + listen + " 1;house 9 0 0 " + (listen + 1) + " 1;news 0 1;");
            v.run(1);
            due("who heard it", listen == 0 ? 0b1110 : 0b1100, v.spoken(0, 4));
            due("one too little", Math.max(0, listen - 1), v.house(1, 3));
            due("just enough", 0, v.house(2, 3));
            due("one more", 1, v.house(3, 3));
        }
    }

    @Holds(where = "Terms, A MINUTE", sentence = "Each house in its range that is not quiet and whose battery is at least LISTEN hears it,")
    static void quietHousesDoNotHear() {
        VillageWaves v = loaded("house 0 0 9 99 1;house 1 0 0 99 1 quiet 0 0;house 2 0 0 99 1 quiet 47 0;"
                + "house 3 0 0 99 1 quiet 1 47;house 4 0 0 99 1 quiet 0 47;house 10 0 0 99 1;news 0 1;");
        v.run(1);
        due("who heard it", 0b01000, v.spoken(0, 4));
        int[] batteries = {94, 99, 99, 98, 99, 99};
        for (int house = 0; house < batteries.length; house++) {
            due("battery of " + house, batteries[house], v.house(house, 3));
        }
    }

    @Holds(where = "Terms, A MINUTE", sentence = "its battery becomes LISTEN less;")
    static void hearingTakesListenAlsoIfNothingIsNew() {
        VillageWaves v = loaded("set 1 20;house 0 0 9 99 1;house 1 0 9 99 1;news 0 1;");
        v.run(1);
        due("it got it", 79, v.house(1, 3));
        v.run(1);
        due("the author heard its own news", 74, v.house(0, 3));
        due("the speaker", 74, v.house(1, 3));
    }

    @Holds(where = "Terms, A MINUTE", sentence = "a news: if the house knows neither the news nor its correction, it "
            + "gets the news from the speaker, with one hop more;")
    static void whoKnowsTheNewsDoesNotGetItAgain() {
        VillageWaves v = loaded("house 0 0 9 99 1;house 1 0 9 99 1;house 2 0 9 99 1;news 0 1;");
        v.run(1);
        dueSpoken(v, 0, 0, 0, 0, 0, 0b110, 0b110);
        dueEntry(v, 1, 0, 0, 0, 0, 1, 1);
        v.run(2);
        due("heard by two", 2, Integer.bitCount(v.spoken(0, 4)));
        due("got by none", 0, v.spoken(0, 5));
        due("got by none ahead of it", 0, v.spoken(1, 5));
        due("the greatest number of hops", 1, v.news(0, 9));
    }

    @Holds(where = "Terms, A MINUTE", sentence = "a news: if the house knows neither the news nor its correction, it "
            + "gets the news from the speaker, with one hop more;")
    static void whoKnowsTheCorrectionAloneDoesNotGetTheNews() {
        VillageWaves v = correctionHeardWithoutTheNews();
        v.charge(0, -999);
        v.charge(1, 50);
        v.run(1);
        dueSpoken(v, 0, 2, 1, 0, 0, 0b100, 0);
        due("it does not know the news", 0, v.house(2, 10));
        due("nor has an entry", 0, v.house(2, 13));
        due("nor a source", NONE, v.source(2, 0));
        due("nor is it linked", 0, v.owes(2, 0));
    }

    @Holds(where = "Terms, A MINUTE", sentence = "a correction: if the house does not know it, it learns it.")
    static void correctionIsLearnedOnceAndWithoutTheNewsToo() {
        VillageWaves first = correctionHeardWithoutTheNews();
        dueSpoken(first, 0, 1, 0, 1, 0, 0b100, 0b100);
        due("2 knows it", 1, first.house(2, 11));
        VillageWaves again = correctionSentTwice();
        dueSpoken(again, 1, 10, 0, 1, 0, 0b0010, 0b0010);
        dueSpoken(again, 0, 11, 0, 1, 0, 0b0010, 0);
    }

    @Holds(where = "Terms, A MINUTE", sentence = "4. The entry for a news that was sent is removed.")
    static void sentNewsIsRemovedThoughNobodyHeardIt() {
        VillageWaves v = loaded("house 0 0 0 99 1;news 0 1;");
        due("it speaks", 1, v.run(1));
        due("no entry", 0, v.house(0, 13));
        due("once", 0, v.run(48));
    }

    @Holds(where = "Terms, A MINUTE", sentence = "The entry for a correction that was sent gets the time t + 1 if it is still owed to some house.")
    static void sentCorrectionThatIsStillOwedGetsTheNextTime() {
        VillageWaves owed = correctionSentTwice();
        dueEntry(owed, 0, 0, 1, 0, 12, NONE, 1);
        VillageWaves turns = twoNewsSpread();
        turns.correct(0, 0, 9);
        turns.correct(0, 1, 9);
        turns.charge(1, -999);
        turns.run(1);
        dueEntry(turns, 0, 0, 1, 1, 40, NONE, 1);
        dueEntry(turns, 0, 1, 1, 0, 41, NONE, 1);
        turns.run(1);
        dueEntry(turns, 0, 0, 1, 0, 41, NONE, 1);
        dueEntry(turns, 0, 1, 1, 1, 42, NONE, 1);
        turns.charge(1, 99);
        turns.run(1);
        due("owed no more", 1, turns.house(0, 13));
        dueEntry(turns, 0, 0, 1, 1, 42, NONE, 1);
    }

    @Holds(where = "Terms, A MINUTE", sentence = "5. An entry for a correction that is owed to no house any more is removed (of all houses).")
    static void settledCorrectionsLeaveAllQueues() {
        VillageWaves v = loaded("house 0 0 10 100 1;house 6 0 20 100 1;house 0 10 0 100 1;house 20 0 0 100 1;news 0 1;");
        v.run(10);
        due("0 owes 1 and 2", 2, v.correct(0, 0, 9));
        v.charge(2, -999);
        v.run(1);
        due("1 learned", 0b0010, v.spoken(0, 5));
        due("0 still has an entry", 1, v.house(0, 13));
        due("1 has one", 1, v.house(1, 13));
        v.charge(2, 50);
        v.charge(0, -999);
        v.run(1);
        due("2 and 3 learned from 1", 0b1100, v.spoken(0, 5));
        due("1, that sent it, has no entry", 0, v.house(1, 13));
        due("nor has 0, that did not", 0, v.house(0, 13));
    }

    @Holds(where = "Terms, A MINUTE", sentence = "6. The time is t + 1.")
    static void eachMinuteIsOne() {
        VillageWaves v = loaded("house 0 0 0 99 1;news 0 1;");
        due("it speaks", 1, v.run(1));
        due("behind a speech", 1, v.count(8));
        due("at that time", 0, v.spoken(0, 0));
        due("silence", 0, v.run(1));
        due("behind silence", 2, v.count(8));
    }

    @Holds(where = "Terms, A MINUTE", sentence = "A draw of n replaces X (0 to 1000002, 1 at first) by (1103 * X + "
            + "12345) modulo 1000003, and is then X modulo n.")
    static void theEdgesOfX() {
        dueNextX(1, 13448);
        dueNextX(0, 12345);
        dueNextX(1000002, 11242);
        dueNextX(seedFor(1000003, 0), 0);
        dueNextX(seedFor(1000003, 1000002), 1000002);
        due("X at first", 1, new VillageWaves().count(9));
    }

    private static void dueNextX(int x, int next) {
        VillageWaves v = loaded("seed " + x + ";house 0 0 0 99 7;news 0 1;");
        due("X", x, v.count(9));
        v.run(1);
        due("X behind " + x, next, v.count(9));
    }

    @Holds(where = "Terms, A MINUTE", sentence = "In a minute in which no house wishes to speak nothing is drawn.")
    static void silenceDrawsNothing() {
        VillageWaves v = loaded("house 0 0 0 99 1;house 0 0 0 4 1;house 0 0 0 99 1 quiet 0 47;news 1 1;news 2 1;");
        v.run(47);
        due("X stays", 1, v.count(9));
        VillageWaves one = loaded("house 0 0 0 99 1;news 0 1;");
        one.run(1);
        due("one that wishes alone is drawn too", 13448, one.count(9));
        one.run(47);
        due("once", 13448, one.count(9));
        VillageWaves none = new VillageWaves();
        none.run(500);
        due("without houses", 1, none.count(9));
    }

    // ---- SETTINGS

    @Holds(where = "Terms, SETTINGS", sentence = "0 SPEAK 1 to 50 (5);")
    static void boundsOfSpeak() {
        setting(0, 1, 50, 5);
    }

    @Holds(where = "Terms, SETTINGS", sentence = "1 LISTEN 0 to 20 (1);")
    static void boundsOfListen() {
        setting(1, 0, 20, 1);
    }

    @Holds(where = "Terms, SETTINGS", sentence = "2 CHARGE 0 to 200 (40);")
    static void boundsOfCharge() {
        setting(2, 0, 200, 40);
    }

    @Holds(where = "Terms, SETTINGS", sentence = "3 QUOTA 1 to 99 (10);")
    static void boundsOfQuota() {
        setting(3, 1, 99, 10);
    }

    @Holds(where = "Terms, SETTINGS", sentence = "4 HOPS 0 to 11 (11)")
    static void boundsOfHops() {
        setting(4, 0, 11, 11);
    }

    private static void setting(int what, int least, int most, int first) {
        VillageWaves v = new VillageWaves();
        due("at first", first, v.count(what));
        due("what was at first", first, v.set(what, least));
        due("the least one", least, v.count(what));
        due("the least one was", least, v.set(what, most));
        due("the most", most, v.count(what));
        for (int wrong : new int[] {least - 1, most + 1, LOW, HIGH}) {
            refused("set to " + wrong, ARGUMENT, () -> v.set(what, wrong));
        }
        due("it stays", most, v.count(what));
        due("told least", least, loaded("set " + what + " " + least + ";").count(what));
        due("told most", most, loaded("set " + what + " " + most + ";").count(what));
        errs("set " + what + " " + (most + 1) + ";", 2, 6);
        if (least > 0) {
            errs("set " + what + " " + (least - 1) + ";", 2, 6);
        }
    }

    @Holds(where = "Terms, SETTINGS", sentence = "DAY is 48 at first; it can be told by a setup text only (24 to 240).")
    static void boundsOfDay() {
        VillageWaves v = new VillageWaves();
        due("at first", 48, v.count(5));
        for (int value : new int[] {24, 48, 240}) {
            refused("DAY by set() to " + value, ARGUMENT, () -> v.set(5, value));
        }
        due("it stays", 48, v.count(5));
        due("the least one", 24, loaded("day 24;").count(5));
        due("the most", 240, loaded("day 240;").count(5));
        due("not told", 48, loaded("seed 1;").count(5));
        errs("day 23;", 2, 4);
        errs("day 241;", 2, 4);
        errs("day 0;", 2, 4);
        errs("set 5 48;", 2, 4);
    }

    // ---- REASONS

    @Holds(where = "Terms, REASONS", sentence = "-2 there are 20 news;")
    static void theTwentiethNewsIsTheLast() {
        VillageWaves v = loaded("house 0 0 0 0 1;" + times(19, "news 0 0;"));
        due("the 20th", 19, v.tell(0, 1));
        due("a 21st", -2, v.tell(0, 1));
    }

    @Holds(where = "Terms, REASONS", sentence = "-3 the house does not know the news;")
    static void whoDoesNotKnowTheNewsCannotCorrectIt() {
        VillageWaves v = told();
        v.tell(1, 1);
        due("it knows another one alone", -3, v.correct(0, 1, 1));
        due("the author knows it", 0, v.correct(1, 1, 1));
        VillageWaves other = correctionHeardWithoutTheNews();
        due("it knows the correction alone", -3, other.correct(2, 0, 1));
    }

    @Holds(where = "Terms, REASONS", sentence = "-4 the news is corrected already")
    static void aNewsIsCorrectedOnce() {
        VillageWaves v = told();
        due("once", 1, v.correct(0, 0, 0));
        due("by the same house", -4, v.correct(0, 0, 0));
        due("by one that does not know the correction", -4, v.correct(2, 0, 1));
    }

    @Holds(where = "Terms, REASONS", sentence = "or refused with a reason (the first one that applies; nothing changes then):")
    static void theFirstReasonAndNothingChanges() {
        VillageWaves v = told();
        v.tell(1, 1);
        v.correct(1, 1, 2);
        due("-3 comes ahead of -4", -3, v.correct(0, 1, 3));
        refusedActKeeps(-3, TermsSentences::toldTwo, made -> made.correct(0, 1, 3));
        refusedActKeeps(-4, TermsSentences::corrected, made -> made.correct(1, 0, 3));
        refusedActKeeps(-2, TermsSentences::full, made -> made.tell(0, 3));
    }

    private static VillageWaves toldTwo() {
        VillageWaves v = told();
        v.tell(1, 1);
        return v;
    }

    private static VillageWaves corrected() {
        VillageWaves v = told();
        v.correct(0, 0, 9);
        return v;
    }

    private static VillageWaves full() {
        return loaded("house 0 0 0 99 1;" + times(20, "news 0 0;"));
    }

    private static void refusedActKeeps(int reason, Supplier<VillageWaves> make, ToIntFunction<VillageWaves> act) {
        VillageWaves v = make.get();
        due("reason", reason, act.applyAsInt(v));
        due("all there is behind " + reason, stateOf(make.get()), stateOf(v));
    }

    // ---- EXCEPTIONS

    @Holds(where = "Terms, EXCEPTIONS", sentence = "A method that throws an exception changes nothing.")
    static void whatIsRefusedChangesNothing() {
        keeps("truncateText", ARGUMENT, TermsSentences::used, v -> v.truncateText(9));
        keeps("addHouse", ARGUMENT, TermsSentences::used, v -> v.addHouse(1, 1, 1, 1, 10));
        keeps("setQuiet of no house", INDEX, TermsSentences::used, v -> v.setQuiet(3, 1, 2));
        keeps("setQuiet", ARGUMENT, TermsSentences::used, v -> v.setQuiet(2, 5, 48));
        keeps("setQuiet with A alone", ARGUMENT, TermsSentences::used, v -> v.setQuiet(2, 5, NONE));
        keeps("setQuiet with B alone", ARGUMENT, TermsSentences::used, v -> v.setQuiet(2, NONE, 5));
        keeps("charge", ARGUMENT, TermsSentences::used, v -> v.charge(0, 1000));
        keeps("set", ARGUMENT, TermsSentences::used, v -> v.set(0, 51));
        keeps("seed", ARGUMENT, TermsSentences::used, v -> v.seed(1000003));
        keeps("tell", ARGUMENT, TermsSentences::used, v -> v.tell(0, 100));
        keeps("correct", ARGUMENT, TermsSentences::used, v -> v.correct(1, 1, 100));
        keeps("run", ARGUMENT, TermsSentences::used, v -> v.run(501));
        keeps("run of none", ARGUMENT, TermsSentences::used, v -> v.run(0));
    }

    @Holds(where = "Terms, EXCEPTIONS", sentence = "A method that throws an exception changes nothing.")
    static void whatIsRefusedChangesNoTextAndNoSavedState() {
        keeps("appendText", STATE, TermsSentences::fullOfText, v -> v.appendText(0x73656564));
        keeps("a 13th house", STATE, TermsSentences::fullOfHouses, v -> v.addHouse(1, 1, 1, 1, 1));
        keeps("save", ARGUMENT, TermsSentences::used, v -> v.save(2));
        keeps("restore of none", STATE, TermsSentences::used, v -> v.restore(0));
        keeps("restore", ARGUMENT, TermsSentences::used, v -> v.restore(-1));
        keeps("reached", ARGUMENT, TermsSentences::used, v -> v.reached(0, 501, 0));
        keeps("correctedIn", ARGUMENT, TermsSentences::used, v -> v.correctedIn(0, 501));
        keeps("ahead", ARGUMENT, TermsSentences::used, v -> v.ahead(5, 4));
        keeps("bestAuthor", ARGUMENT, TermsSentences::used, v -> v.bestAuthor(201));
    }

    /** A village with news, a correction on its way, a text of 8 bytes that ends too early, an error, and the slot 1 saved. */
    private static VillageWaves used() {
        VillageWaves v = told();
        v.setQuiet(2, 12, 13);
        v.save(1);
        write(v, "x");
        v.load();
        write(v, "seed 7  ");
        v.tell(1, 3);
        v.correct(0, 0, 9);
        v.run(1);
        return v;
    }

    private static VillageWaves fullOfText() {
        VillageWaves v = line();
        write(v, times(86, "seed 78;") + "seed 6789");
        return v;
    }

    private static VillageWaves fullOfHouses() {
        return loaded(times(12, "house 0 0 0 0 1;"));
    }

    @Holds(where = "Terms, EXCEPTIONS", sentence = "If several exceptions apply, the one that comes first in the "
            + "method's list of exceptions is thrown.")
    static void theFirstExceptionOfTheList() {
        VillageWaves v = fullOfHouses();
        refused("addHouse", ARGUMENT, () -> v.addHouse(0, 0, 0, 0, 0));
        refused("setQuiet", INDEX, () -> v.setQuiet(12, 48, NONE));
        refused("charge", INDEX, () -> v.charge(12, 1000));
        refused("house", INDEX, () -> v.house(12, 15));
        refused("entry of no house", INDEX, () -> v.entry(12, 0, 5));
        refused("entry of no entry", INDEX, () -> v.entry(0, 0, 5));
        refused("news", INDEX, () -> v.news(0, 10));
        refused("tell", INDEX, () -> v.tell(12, 100));
        refused("correct by no house", INDEX, () -> v.correct(12, 0, 100));
        refused("correct of no news", INDEX, () -> v.correct(0, 0, 100));
        refused("reached", INDEX, () -> v.reached(0, 0, 3));
        refused("correctedIn", INDEX, () -> v.correctedIn(0, 0));
        refused("restore", ARGUMENT, () -> v.restore(2));
    }

    @Holds(where = "Terms, EXCEPTIONS", sentence = "A method that throws an exception changes nothing.")
    static void anExceptionComesAheadOfAReason() {
        VillageWaves v = full();
        refused("tell of a 21st", ARGUMENT, () -> v.tell(0, 100));
        refused("tell of a 21st by no house", INDEX, () -> v.tell(1, 0));
        VillageWaves two = toldTwo();
        refused("correct of what it does not know", ARGUMENT, () -> two.correct(0, 1, 100));
    }

    // ---- what stands ahead of the calls

    @Holds(where = "Terms", sentence = "what follows from ranges and hours (whatever batteries have).")
    static void rangesAndHoursWhateverBatteriesHave() {
        VillageWaves v = line();
        v.setQuiet(1, 0, 46);
        for (int house = 0; house < 3; house++) {
            v.charge(house, -999);
        }
        due("hops over empty and quiet houses", 2, v.hops(0, 2));
        due("near", 1, v.near(0, 0));
        due("overlap of empty houses", 1, v.overlap(0, 1));
        due("range", 0b10, v.house(0, 14));
    }

    @Holds(where = "Terms", sentence = "predictions (with the lots that would be drawn, if only time passes; nothing changes).")
    static void predictionsDrawTheLotsThatCome() {
        Set<String> answers = new TreeSet<>();
        for (int seed = 0; seed < 40; seed++) {
            VillageWaves v = lottery(25000 * seed);
            int reached = v.reached(2, 2, 0);
            int corrected = v.correctedIn(0, 500);
            int got = v.ahead(2, 1);
            int learned = v.ahead(2, 2);
            int best = v.bestAuthor(2);
            answers.add(reached + " " + corrected + " " + got + " " + learned + " " + best);
            due("bestAuthor", bestPlayed(lottery(25000 * seed)), best);
            v.run(2);
            due("reached", Integer.bitCount(v.news(2, 6)), reached);
            due("got", Integer.bitCount(v.news(1, 6) & ~8) + Integer.bitCount(v.news(2, 6) & ~8), got);
            due("learned", v.news(0, 8) == 0 ? 1 : 0, learned);
            due("correctedIn", corrected, behindMinutes(lottery(25000 * seed)));
        }
        due("the lots decide", true, answers.size() > 5);
    }

    /** House 0 owes a correction to 1, and house 3 has two news for 2: who speaks is drawn. */
    private static VillageWaves lottery(int x) {
        VillageWaves v = loaded("seed " + x + ";house 0 0 5 99 1;house 5 0 5 99 1;house 50 0 5 99 1;house 55 0 5 99 2;news 0 1;");
        v.run(9);
        v.seed(x);
        v.correct(0, 0, 5);
        v.tell(3, 6);
        v.tell(3, 7);
        return v;
    }

    private static int bestPlayed(VillageWaves v) {
        int best = NONE;
        int most = 0;
        v.save(0);
        for (int house = 0; house < 4; house++) {
            int news = v.tell(house, 0);
            v.run(2);
            int known = Integer.bitCount(v.news(news, 6));
            best = known > most ? house : best;
            most = Math.max(known, most);
            v.restore(0);
        }
        return best;
    }

    private static int behindMinutes(VillageWaves v) {
        int minutes = 0;
        while (v.news(0, 8) != 0 && minutes < 100) {
            v.run(1);
            minutes++;
        }
        return minutes;
    }

    @Holds(where = "Terms", sentence = "if only time passes; nothing changes).")
    static void predictionsChangeNothing() {
        VillageWaves v = lottery(777);
        for (int what = 0; what < 4; what++) {
            v.ahead(500, what);
            v.reached(0, 500, Math.min(what, 2));
        }
        v.correctedIn(0, 500);
        v.bestAuthor(200);
        v.wishes();
        v.next();
        v.chance(0);
        due("all there is", stateOf(lottery(777)), stateOf(v));
    }
}
