import java.util.function.IntConsumer;

/** The boundary cases that the promises name themselves. */
final class PromiseSentences extends Asked {

    // ---- Promise 1

    @Holds(where = "Promise 1", sentence = "Creates a village without houses at the time 0, with an empty text buffer and no saved states.")
    static void aNewVillageIsEmpty() {
        VillageWaves v = new VillageWaves();
        dueCounts(v, 5, 1, 40, 10, 11, 48, 0, 0, 0, 1, 0, 0, 0, 0);
        due("wishes", 0, v.wishes());
        due("next", NONE, v.next());
        due("the latest minute", NONE, v.spoken(0, 0));
        refused("house 0", INDEX, () -> v.house(0, 0));
        refused("news 0", INDEX, () -> v.news(0, 0));
        refused("a byte of text", ARGUMENT, () -> v.truncateText(1));
        due("no text", 0, v.truncateText(0));
        refused("slot 0", STATE, () -> v.restore(0));
        refused("slot 1", STATE, () -> v.restore(1));
    }

    // ---- Promise 2

    @Holds(where = "Promise 2", sentence = "Appends four bytes to the text buffer, the highest byte of the parameter first.")
    static void theHighestByteComesFirst() {
        VillageWaves v = new VillageWaves();
        v.appendText('s' << 24 | 'e' << 16 | 'e' << 8 | 'd');
        v.appendText('4' << 24 | '3' << 16 | '2' << 8 | ';');
        v.load();
        due("X", 432, v.count(9));
        int[] strange = {0xFF202020, 0x20FF2020, 0x2020FF20, 0x202020FF, 0x80000000, HIGH, LOW, -1};
        int[] positions = {0, 1, 2, 3, 0, 0, 0, 0};
        for (int which = 0; which < strange.length; which++) {
            v.appendText(strange[which]);
            due("load", NONE, v.load());
            due("position of the byte of no token in " + strange[which], positions[which], v.errorPosition());
        }
    }

    @Holds(where = "Promise 2", sentence = "Returns the length of the text in bytes.")
    static void theLengthOfTheText() {
        VillageWaves v = new VillageWaves();
        for (int length = 4; length <= 700; length += 4) {
            due("length", length, v.appendText(0));
        }
        v.truncateText(3);
        due("behind 3 bytes", 7, v.appendText(0));
        v.load();
        due("behind a load", 4, v.appendText(0));
    }

    @Holds(where = "Promise 2", sentence = "Throws `IllegalStateException` if the text would be longer than 700 bytes")
    static void noMoreThan700Bytes() {
        for (int length = 697; length <= 700; length++) {
            VillageWaves v = new VillageWaves();
            write(v, times(length, " "));
            refused("behind " + length, STATE, () -> v.appendText(0x20202020));
            int stays = length;
            refused("it is no longer", ARGUMENT, () -> v.truncateText(stays + 1));
            due("nor shorter", length, v.truncateText(length));
            due("nor changed", 0, v.load());
        }
        VillageWaves v = new VillageWaves();
        write(v, times(696, " "));
        due("behind 696", 700, v.appendText(0x20202020));
    }

    // ---- Promise 3

    @Holds(where = "Promise 3", sentence = "`length`: the new length, 0 to the present length")
    static void cutsToAnyLengthUpToThePresentOne() {
        VillageWaves v = new VillageWaves();
        due("of none", 0, v.truncateText(0));
        write(v, "seed 12;");
        due("the present one", 8, v.truncateText(8));
        due("one shorter", 7, v.truncateText(7));
        due("to nothing", 0, v.truncateText(0));
    }

    @Holds(where = "Promise 3", sentence = "Returns the new length.")
    static void theNewLength() {
        VillageWaves v = new VillageWaves();
        write(v, times(700, " "));
        for (int length : new int[] {700, 699, 350, 1, 0, 0}) {
            due("length", length, v.truncateText(length));
        }
    }

    @Holds(where = "Promise 3", sentence = "Throws `IllegalArgumentException` if length is out of range")
    static void cutsToNoOtherLength() {
        VillageWaves v = new VillageWaves();
        refused("1 of none", ARGUMENT, () -> v.truncateText(1));
        refused("-1 of none", ARGUMENT, () -> v.truncateText(-1));
        write(v, "seed 12;");
        for (int length : new int[] {9, -1, 700, 701, LOW, HIGH}) {
            refused(length + " of 8", ARGUMENT, () -> v.truncateText(length));
        }
        v.truncateText(5);
        refused("not back to 8", ARGUMENT, () -> v.truncateText(8));
        refused("nor to 6", ARGUMENT, () -> v.truncateText(6));
    }

    @Holds(where = "Promise 3", sentence = "Cuts the text to its first bytes.")
    static void theFirstBytesStay() {
        VillageWaves v = new VillageWaves();
        write(v, "seed 1;x");
        v.truncateText(7);
        due("a setup", 0, v.load());
        due("X", 1, v.count(9));
        write(v, "seed 123");
        v.truncateText(6);
        v.appendText(0x3B202020);
        v.load();
        due("what was cut does not come back", 1, v.count(9));
        write(v, "day 300");
        v.truncateText(6);
        v.load();
        due("a number ends where it is cut", 6, v.errorPosition());
        write(v, "seeds");
        v.truncateText(4);
        v.load();
        due("and a word", 4, v.errorPosition());
    }

    // ---- Promise 4

    @Holds(where = "Promise 4", sentence = "Reads the text as a setup, which replaces everything except saved states (what it does not tell is as at first).")
    static void whatIsNotToldIsAsAtFirst() {
        VillageWaves v = changedInAll();
        v.save(1);
        v.bestAuthor(9);
        v.ahead(1, 0);
        due("no text is a setup", 0, v.load());
        dueCounts(v, 5, 1, 40, 10, 11, 48, 0, 0, 0, 1, 0, 0, 0, 0);
        due("no minute is kept", NONE, v.spoken(0, 0));
        due("the house is added anew", 0, v.addHouse(0, 0, 9, 99, 1));
        dueHouse(v, 0, 0, 0, 9, 99, 1, NONE, NONE, 0, 0, 0, 0, 0, 0, 0, 0);
        due("its news", 0, v.tell(0, 1));
        dueNews(v, 0, 0, 0, 1, NONE, NONE, NONE, 1, 0, 0, 0);
        dueEntry(v, 0, 0, 0, 0, 0, 0, 1);
        due("no source", NONE, v.source(0, 0));
        due("it is linked to nobody", 0, v.correct(0, 0, 1));
        refused("slot 0", STATE, () -> v.restore(0));
        v.restore(1);
        due("the saved state stays", seen(changedInAll()), seen(v));
        VillageWaves spoke = chatter();
        spoke.ahead(9, 0);
        write(spoke, "house 0 0 0 0 1;");
        spoke.load();
        due("no house has spoken on this day", 0, spoke.house(0, 8));
        due("nor ever", 0, spoke.house(0, 9));
    }

    /** At the time 33, with entries of all kinds: 1 owes the correction of its news 0 to 0, that is quiet. */
    private static VillageWaves changedInAll() {
        VillageWaves v = loaded("day 30;set 0 6;set 1 2;set 2 50;set 3 9;set 4 8;seed 9;house 1 1 9 99 3;"
                + "house 2 1 9 99 3;house 3 1 9 99 3;news 1 5;news 0 6;");
        v.run(31);
        v.setQuiet(0, 1, 2);
        v.tell(2, 8);
        v.run(1);
        v.correct(1, 0, 7);
        v.run(1);
        dueEntry(v, 1, 0, 1, 0, 33, NONE, 1);
        dueEntry(v, 1, 1, 0, 2, 31, 1, 1);
        return v;
    }

    @Holds(where = "Promise 4", sentence = "The text buffer is empty afterwards, also if there is an error.")
    static void theBufferIsEmptyBehindALoad() {
        VillageWaves v = new VillageWaves();
        write(v, "seed 1;");
        v.load();
        refused("behind a setup", ARGUMENT, () -> v.truncateText(1));
        write(v, "seed x; seed 1;");
        v.load();
        refused("behind an error", ARGUMENT, () -> v.truncateText(1));
        due("and filled anew", 4, v.appendText(0x20202020));
        due("with what is new alone", 0, v.load());
        write(v, times(699, " ") + "x");
        v.load();
        due("behind 700 bytes", 4, v.appendText(0x20202020));
    }

    @Holds(where = "Promise 4", sentence = "Returns the number of houses; NONE if the text has an error (then everything else stays).")
    static void anErrorChangesNothingElse() {
        String[] wrong = {"x", "day 24;house 9 9 9 9 9;seed 3;news 0 1;set 0 1;day", "house 1 1 1 1 1", "seed 1000003;",
            times(12, "house 0 0 0 0 1;") + "house"};
        for (String text : wrong) {
            VillageWaves v = changedInAll();
            v.save(0);
            write(v, text);
            due("load of " + text, NONE, v.load());
            due("all there is behind " + text, seen(changedInAll()), seen(v));
        }
    }

    @Holds(where = "Promise 4", sentence = "Returns the number of houses;")
    static void theNumberOfHousesOfASetup() {
        loads("", 0);
        loads("seed 1;", 0);
        loads("house 0 0 0 0 1;", 1);
        loads(times(12, "house 0 0 0 0 1;"), 12);
    }

    // ---- Promises 5 and 6

    @Holds(where = "Promise 5", sentence = "Returns the error code of the latest load(); 0 if its text had no error, or if there was no such call.")
    static void theCodeOfTheLatestLoad() {
        VillageWaves v = new VillageWaves();
        due("no such call", 0, v.errorCode());
        write(v, "x");
        due("not loaded yet", 0, v.errorCode());
        v.load();
        due("1", 1, v.errorCode());
        write(v, "day 1;");
        due("still the latest one", 1, v.errorCode());
        v.load();
        due("2", 2, v.errorCode());
        write(v, times(12, "house 0 0 0 0 1;") + "house");
        v.load();
        due("3", 3, v.errorCode());
        v.load();
        due("no error", 0, v.errorCode());
    }

    @Holds(where = "Promise 6", sentence = "Returns the error position of the latest load(); NONE if its text had no error, or if there was no such call.")
    static void thePositionOfTheLatestLoad() {
        VillageWaves v = new VillageWaves();
        due("no such call", NONE, v.errorPosition());
        write(v, "x");
        due("not loaded yet", NONE, v.errorPosition());
        v.load();
        due("0", 0, v.errorPosition());
        write(v, "day 1;");
        due("still the latest one", 0, v.errorPosition());
        v.load();
        due("4", 4, v.errorPosition());
        v.load();
        due("no error", NONE, v.errorPosition());
    }

    // ---- Promise 7

    @Holds(where = "Promise 7", sentence = "`x`: 0 to 99")
    static void boundsOfX() {
        boundsOfAHouse(0, 0, 99);
    }

    @Holds(where = "Promise 7", sentence = "`y`: 0 to 99")
    static void boundsOfY() {
        boundsOfAHouse(1, 0, 99);
    }

    @Holds(where = "Promise 7", sentence = "`range`: 0 to 150")
    static void boundsOfRange() {
        boundsOfAHouse(2, 0, 150);
    }

    @Holds(where = "Promise 7", sentence = "`battery`: 0 to 999")
    static void boundsOfBattery() {
        boundsOfAHouse(3, 0, 999);
    }

    @Holds(where = "Promise 7", sentence = "`share`: 1 to 9")
    static void boundsOfShare() {
        boundsOfAHouse(4, 1, 9);
    }

    private static void boundsOfAHouse(int which, int least, int most) {
        VillageWaves v = new VillageWaves();
        for (int value : new int[] {least - 1, most + 1, LOW, HIGH}) {
            refused("parameter " + which + " of " + value, ARGUMENT, () -> addHouseWith(v, which, value));
        }
        due("no house", 0, v.count(6));
        due("least", 0, addHouseWith(v, which, least));
        due("most", 1, addHouseWith(v, which, most));
        due("it is kept", least, v.house(0, which));
        due("it is kept", most, v.house(1, which));
    }

    private static int addHouseWith(VillageWaves v, int which, int value) {
        int[] p = {50, 50, 50, 50, 5};
        p[which] = value;
        return v.addHouse(p[0], p[1], p[2], p[3], p[4]);
    }

    @Holds(where = "Promise 7", sentence = "Throws `IllegalArgumentException` if a parameter is out of range")
    static void noHouseWithAWrongParameter() {
        VillageWaves v = line();
        int[] wrong = {100, 100, 151, 1000, 10};
        for (int which = 0; which < 5; which++) {
            int number = which;
            refused("one that is too great", ARGUMENT, () -> addHouseWith(v, number, wrong[number]));
            refused("one that is too small", ARGUMENT, () -> addHouseWith(v, number, number == 4 ? 0 : -1));
        }
        refused("all of them", ARGUMENT, () -> v.addHouse(LOW, HIGH, LOW, HIGH, LOW));
        due("houses", 3, v.count(6));
        due("ranges", 0b101, v.house(1, 14));
    }

    @Holds(where = "Promise 7", sentence = "Returns its number.")
    static void numbersGoOnBehindThoseThatWereTold() {
        VillageWaves v = new VillageWaves();
        due("the first one", 0, v.addHouse(0, 0, 0, 0, 1));
        VillageWaves more = line();
        due("behind three of a text", 3, more.addHouse(0, 0, 0, 0, 1));
        due("and one more", 4, more.addHouse(0, 0, 0, 0, 1));
        more.load();
        due("behind none", 0, more.addHouse(0, 0, 0, 0, 1));
    }

    @Holds(where = "Promise 7", sentence = "Throws `IllegalStateException` if there are 12 houses")
    static void noThirteenthHouse() {
        VillageWaves v = loaded(times(11, "house 0 0 0 0 1;"));
        due("the 12th", 11, v.addHouse(0, 0, 0, 0, 1));
        refused("a 13th", STATE, () -> v.addHouse(0, 0, 0, 0, 1));
        refused("a 13th with a wrong share", ARGUMENT, () -> v.addHouse(0, 0, 0, 0, 0));
        due("houses", 12, v.count(6));
    }

    @Holds(where = "Promise 7", sentence = "Adds a house without quiet hours.")
    static void anAddedHouseIsNeverQuiet() {
        VillageWaves v = told();
        v.setQuiet(0, 0, 47);
        v.addHouse(0, 0, 150, 9, 1);
        dueHouse(v, 3, 0, 0, 150, 9, 1, NONE, NONE, 0, 0, 0, 0, 0, 0, 0, 0b111);
        due("it is in range of 0 then", 0b1010, v.house(0, 14));
    }

    // ---- Promise 8

    @Holds(where = "Promise 8", sentence = "`from`: A, a minute of the day; or NONE for no quiet hours")
    static void boundsOfA() {
        boundsOfQuietHours((v, from) -> v.setQuiet(0, from, 1), 5);
    }

    @Holds(where = "Promise 8", sentence = "`to`: B, a minute of the day; or NONE for no quiet hours")
    static void boundsOfB() {
        boundsOfQuietHours((v, to) -> v.setQuiet(0, 1, to), 6);
    }

    private interface Setter {
        void set(VillageWaves v, int value);
    }

    private static void boundsOfQuietHours(Setter setter, int what) {
        for (int day : new int[] {24, 48, 240}) {
            VillageWaves v = loaded("day " + day + ";house 0 0 0 0 1;");
            setter.set(v, 0);
            due("least", 0, v.house(0, what));
            setter.set(v, day - 1);
            due("most", day - 1, v.house(0, what));
            for (int value : new int[] {day, -2, LOW, HIGH}) {
                refused("value " + value, ARGUMENT, () -> setter.set(v, value));
            }
            due("it stays", day - 1, v.house(0, what));
        }
    }

    @Holds(where = "Promise 8", sentence = "Throws `IllegalArgumentException` if from or to is out of range, or just one of both is NONE")
    static void bothOrNeitherIsNone() {
        VillageWaves v = loaded("house 0 0 0 0 1 quiet 3 4;house 0 0 0 0 1;");
        for (int house = 0; house < 2; house++) {
            int number = house;
            refused("A alone", ARGUMENT, () -> v.setQuiet(number, 0, NONE));
            refused("B alone", ARGUMENT, () -> v.setQuiet(number, NONE, 0));
        }
        dueHouse(v, 0, 0, 0, 0, 0, 1, 3, 4);
        dueHouse(v, 1, 0, 0, 0, 0, 1, NONE, NONE);
        refused("both out of range", ARGUMENT, () -> v.setQuiet(0, -2, -2));
    }

    @Holds(where = "Promise 8", sentence = "Gives a house quiet hours in place of its own, or takes them away.")
    static void quietHoursAreReplacedOrTakenAway() {
        VillageWaves v = loaded("house 0 0 0 0 1 quiet 0 47;");
        due("quiet at 0", 1, v.house(0, 7));
        v.setQuiet(0, 1, 47);
        due("not at 0", 0, v.house(0, 7));
        v.setQuiet(0, 0, 0);
        due("at 0 alone", 1, v.house(0, 7));
        v.setQuiet(0, NONE, NONE);
        due("never", 0, v.house(0, 7));
        due("A", NONE, v.house(0, 5));
        due("B", NONE, v.house(0, 6));
        v.setQuiet(0, NONE, NONE);
        due("taken away twice", 48, v.overlap(0, 0));
    }

    @Holds(where = "Promise 8", sentence = "Throws `IndexOutOfBoundsException` if there is no such house")
    static void quietHoursOfNoHouse() {
        noSuchHouse(3, house -> line().setQuiet(house, 1, 2));
        refused("wrong hours too", INDEX, () -> line().setQuiet(3, 48, NONE));
    }

    /** The call is refused for each number that is not one of so many, and not for the least and the last one. */
    private static void noSuchHouse(int houses, IntConsumer call) {
        for (int house : new int[] {houses, -1, 12, LOW, HIGH}) {
            refused("number " + house, INDEX, () -> call.accept(house));
        }
        call.accept(0);
        call.accept(houses - 1);
    }

    // ---- Promise 9

    @Holds(where = "Promise 9", sentence = "`more`: -999 to 999, by how much; the battery is kept within 0 to 999")
    static void theBatteryIsKeptWithinItsBounds() {
        VillageWaves v = loaded("house 0 0 0 1 1;house 0 0 0 998 1;");
        due("just empty", 0, v.charge(0, -1));
        due("not below", 0, v.charge(0, -1));
        due("just full", 999, v.charge(0, 999));
        due("not above", 999, v.charge(0, 999));
        due("just empty of full", 0, v.charge(0, -999));
        due("far below", 0, v.charge(0, -999));
        due("just full of 998", 999, v.charge(1, 1));
        due("not above", 999, v.charge(1, 1));
        due("by nothing", 999, v.charge(1, 0));
        due("it is kept", 999, v.house(1, 3));
        due("the other one", 0, v.house(0, 3));
    }

    @Holds(where = "Promise 9", sentence = "Returns the battery then.")
    static void theBatteryAsItIsKept() {
        VillageWaves v = line();
        due("empty, not below", 0, v.charge(1, -101));
        due("full, not above", 999, v.charge(2, 900));
        due("as it is", 100, v.charge(0, 0));
        due("of house 1", 0, v.house(1, 3));
        due("of house 2", 999, v.house(2, 3));
    }

    @Holds(where = "Promise 9", sentence = "Throws `IllegalArgumentException` if more is out of range")
    static void chargesNoMoreThanABattery() {
        VillageWaves v = line();
        for (int more : new int[] {1000, -1000, LOW, HIGH}) {
            refused("more " + more, ARGUMENT, () -> v.charge(0, more));
        }
        due("it stays", 100, v.house(0, 3));
    }

    @Holds(where = "Promise 9", sentence = "Throws `IndexOutOfBoundsException` if there is no such house")
    static void chargesNoOtherHouse() {
        noSuchHouse(3, house -> line().charge(house, 1));
        refused("too much too", INDEX, () -> line().charge(3, 1000));
    }

    // ---- Promises 10 and 11

    @Holds(where = "Promise 10", sentence = "`what`: 0 to 4")
    static void fiveSettings() {
        VillageWaves v = new VillageWaves();
        int[] first = {5, 1, 40, 10, 11};
        for (int what = 0; what <= 4; what++) {
            due("previous value", first[what], v.set(what, 7));
            due("it is kept", 7, v.count(what));
        }
        due("DAY is none of them", 48, v.count(5));
    }

    @Holds(where = "Promise 10", sentence = "Throws `IllegalArgumentException` if what is out of range, or value is out of the range of the setting")
    static void noOtherSettingAndNoOtherValue() {
        VillageWaves v = new VillageWaves();
        for (int what : new int[] {-1, 5, 6, LOW, HIGH}) {
            for (int value : new int[] {0, 1, 24, 48}) {
                refused("what " + what + " value " + value, ARGUMENT, () -> v.set(what, value));
            }
        }
        int[] least = {1, 0, 0, 1, 0};
        int[] most = {50, 20, 200, 99, 11};
        for (int what = 0; what <= 4; what++) {
            int number = what;
            refused("below " + what, ARGUMENT, () -> v.set(number, least[number] - 1));
            refused("above " + what, ARGUMENT, () -> v.set(number, most[number] + 1));
        }
        dueCounts(v, 5, 1, 40, 10, 11, 48);
    }

    @Holds(where = "Promise 11", sentence = "`seed`: the new X, 0 to 1000002")
    static void theLeastAndTheMostX() {
        VillageWaves v = new VillageWaves();
        v.seed(0);
        due("least", 0, v.count(9));
        v.seed(1000002);
        due("most", 1000002, v.count(9));
    }

    @Holds(where = "Promise 11", sentence = "Throws `IllegalArgumentException` if seed is out of range")
    static void noOtherX() {
        VillageWaves v = new VillageWaves();
        for (int seed : new int[] {-1, 1000003, LOW, HIGH}) {
            refused("seed " + seed, ARGUMENT, () -> v.seed(seed));
        }
        due("X stays", 1, v.count(9));
    }

    // ---- Promise 12

    @Holds(where = "Promise 12", sentence = "`what`: 0 to 4: the settings; 5: DAY; 6: houses; 7: news; 8: the time; 9: X;")
    static void theLeastAndTheMostThatIsCounted() {
        VillageWaves least = loaded("day 24;set 0 1;set 1 0;set 2 0;set 3 1;set 4 0;seed 0;");
        dueCounts(least, 1, 0, 0, 1, 0, 24, 0, 0, 0, 0);
        VillageWaves most = loaded("day 240;set 0 50;set 1 20;set 2 200;set 3 99;set 4 11;seed 1000002;" + times(12, "house 0 0 0 0 1;")
                + times(20, "news 0 0;"));
        dueCounts(most, 50, 20, 200, 99, 11, 240, 12, 20, 0, 1000002);
        most.run(240);
        due("the time is not that of the day", 240, most.count(8));
    }

    @Holds(where = "Promise 12", sentence = "Throws `IllegalArgumentException` if what is out of range")
    static void countsFrom0To13() {
        VillageWaves v = told();
        for (int what : new int[] {-1, 14, LOW, HIGH}) {
            refused("count " + what, ARGUMENT, () -> v.count(what));
        }
        due("the first one", 5, v.count(0));
        due("the last one", 0, v.count(13));
    }

    @Holds(where = "Promise 12", sentence = "10: minutes in which a house spoke;")
    static void silentMinutesAreNotCounted() {
        VillageWaves v = line();
        v.run(20);
        due("none", 0, v.count(10));
        v.tell(0, 1);
        v.run(20);
        due("three", 3, v.count(10));
        VillageWaves many = chatter();
        many.run(90);
        due("more than the 30 that are kept", 91, many.count(10));
        many.run(150);
        due("all days", 100, many.count(10));
    }

    @Holds(where = "Promise 12", sentence = "11: houses that are quiet at the present minute (as a set: bit h for house h);")
    static void quietHousesAtThePresentMinute() {
        VillageWaves v = loaded(times(12, "house 0 0 0 0 1;"));
        due("none", 0, v.count(11));
        for (int house = 0; house < 12; house++) {
            v.setQuiet(house, house, house);
        }
        for (int minute = 0; minute < 14; minute++) {
            due("at " + minute, minute < 12 ? 1 << minute : 0, v.count(11));
            v.run(1);
        }
        for (int house = 0; house < 12; house++) {
            v.setQuiet(house, 0, 47);
        }
        due("all", 0xFFF, v.count(11));
    }

    @Holds(where = "Promise 12", sentence = "12: news that are corrected;")
    static void correctedNewsUpTo20() {
        VillageWaves v = loaded("house 0 0 0 0 1;" + times(20, "news 0 0;"));
        for (int news = 19; news >= 0; news--) {
            due("their number", 19 - news, v.count(12));
            v.correct(0, news, 0);
        }
        due("all", 20, v.count(12));
    }

    @Holds(where = "Promise 12", sentence = "13: entries of all queues")
    static void entriesUpToAllNewsOfAllHouses() {
        VillageWaves v = loaded("set 0 1;set 1 0;set 3 99;" + times(12, "house 0 0 9 999 1;"));
        due("none", 0, v.count(13));
        VillageWaves kinds = told();
        kinds.tell(2, 1);
        kinds.correct(0, 0, 1);
        due("of both kinds", 2, kinds.count(13));
        for (int news = 0; news < 20; news++) {
            v.tell(news % 12, 0);
        }
        due("one each", 20, v.count(13));
        v.run(1);
        due("one was sent to eleven", 20 - 1 + 11, v.count(13));
        due("one house speaks in each minute", 239, v.run(239));
        due("of 240 sendings", 0, v.count(13));
    }

    // ---- Promise 13

    @Holds(where = "Promise 13", sentence = "Throws `IllegalArgumentException` if what is out of range")
    static void factsOfAHouseFrom0To14() {
        VillageWaves v = line();
        for (int what : new int[] {-1, 15, LOW, HIGH}) {
            refused("house " + what, ARGUMENT, () -> v.house(0, what));
        }
        due("the first one", 10, v.house(1, 0));
        due("the last one", 0b101, v.house(1, 14));
    }

    @Holds(where = "Promise 13", sentence = "Throws `IndexOutOfBoundsException` if there is no such house")
    static void factsOfNoHouse() {
        noSuchHouse(3, house -> line().house(house, 0));
        refused("what 15 too", INDEX, () -> line().house(3, 15));
        refused("of none", INDEX, () -> new VillageWaves().house(0, 0));
    }

    @Holds(where = "Promise 13", sentence = "`what`: 0: x; 1: y; 2: RANGE; 3: battery; 4: SHARE;")
    static void theLeastAndTheMostOfAHouse() {
        VillageWaves v = loaded("house 0 99 0 999 1;house 99 0 150 0 9;" + times(9, "house 1 1 1 1 1;") + "house 98 2 149 4 5;");
        dueHouse(v, 0, 0, 99, 0, 999, 1);
        dueHouse(v, 1, 99, 0, 150, 0, 9);
        dueHouse(v, 11, 98, 2, 149, 4, 5);
    }

    @Holds(where = "Promise 13", sentence = "5: A (NONE without quiet hours); 6: B (likewise);")
    static void quietHoursOfZeroAreNotNone() {
        VillageWaves v = loaded("house 0 0 0 0 1 quiet 0 0;house 0 0 0 0 1 quiet 47 0;house 0 0 0 0 1;");
        dueHouse(v, 0, 0, 0, 0, 0, 1, 0, 0);
        dueHouse(v, 1, 0, 0, 0, 0, 1, 47, 0);
        dueHouse(v, 2, 0, 0, 0, 0, 1, NONE, NONE);
    }

    @Holds(where = "Promise 13", sentence = "7: 1 if it is quiet at the present minute, else 0;")
    static void quietAtThePresentMinute() {
        VillageWaves v = loaded("day 24;house 0 0 0 0 1 quiet 23 0;house 0 0 0 0 1;");
        due("at 0", 1, v.house(0, 7));
        v.run(1);
        due("at 1", 0, v.house(0, 7));
        v.run(21);
        due("at 22", 0, v.house(0, 7));
        v.run(1);
        due("at 23", 1, v.house(0, 7));
        v.run(1);
        due("at 24", 1, v.house(0, 7));
        due("without quiet hours", 0, v.house(1, 7));
    }

    @Holds(where = "Promise 13", sentence = "8: minutes of this day in which it spoke (of the day of the latest minute);")
    static void theDayOfTheLatestMinute() {
        VillageWaves v = loaded("house 0 0 0 99 1;news 0 1;news 0 1;");
        due("ahead of all minutes", 0, v.house(0, 8));
        v.run(47);
        due("at 47", 2, v.house(0, 8));
        v.run(1);
        due("at 48 the latest minute was of the first day", 2, v.house(0, 8));
        v.run(1);
        due("at 49 it was of the second one", 0, v.house(0, 8));
        v.tell(0, 2);
        v.run(1);
        due("once on the second day", 1, v.house(0, 8));
    }

    @Holds(where = "Promise 13", sentence = "9: all minutes in which it spoke;")
    static void allMinutesInWhichItSpoke() {
        VillageWaves v = chatter();
        v.run(239);
        due("on the first day", 99, v.house(0, 9));
        v.run(10);
        due("and one more, when 1 was charged", 100, v.house(0, 9));
        due("1 never", 0, v.house(1, 9));
        due("a house that never spoke", 0, line().house(0, 9));
    }

    @Holds(where = "Promise 13", sentence = "10: the news that it knows (as a set: bit n for news n);")
    static void noneOrAllNewsAreKnown() {
        VillageWaves v = loaded("house 0 0 0 0 1;house 0 0 0 0 1;");
        due("none", 0, v.house(0, 10));
        for (int news = 0; news < 20; news++) {
            v.tell(0, 0);
            due("so many", (2 << news) - 1, v.house(0, 10));
        }
        due("the other house", 0, v.house(1, 10));
    }

    @Holds(where = "Promise 13", sentence = "11: the corrections that it knows (as a set);")
    static void noneOrAllCorrectionsAreKnown() {
        VillageWaves v = loaded("house 0 0 0 0 1;house 0 0 0 0 1;" + times(20, "news 0 0;"));
        due("none", 0, v.house(0, 11));
        v.correct(0, 19, 0);
        due("bit 19", 1 << 19, v.house(0, 11));
        for (int news = 0; news < 19; news++) {
            v.correct(0, news, 0);
        }
        due("all", 0xFFFFF, v.house(0, 11));
        due("the other house", 0, v.house(1, 11));
    }

    @Holds(where = "Promise 13", sentence = "12: the news that it knows without the correction, though they are corrected (as a set);")
    static void knownWithoutTheCorrection() {
        VillageWaves v = told();
        v.tell(1, 1);
        due("nothing is corrected", 0, v.house(1, 12));
        v.correct(1, 1, 2);
        due("it knows the correction", 0, v.house(1, 12));
        v.correct(2, 0, 3);
        due("0 does not", 1, v.house(0, 12));
        due("1 does not", 1, v.house(1, 12));
        due("2 does", 0, v.house(2, 12));
        due("0 does not know the news 1 at all", 1, v.house(0, 10));
        VillageWaves all = loaded("set 0 1;set 1 0;set 3 99;house 0 0 9 99 1;house 1 0 0 99 1;" + times(20, "news 0 1;"));
        all.run(40);
        for (int news = 0; news < 20; news++) {
            all.correct(0, news, 1);
        }
        due("all of 20", 0xFFFFF, all.house(1, 12));
        due("the corrector", 0, all.house(0, 12));
    }

    @Holds(where = "Promise 13", sentence = "13: entries of its queue;")
    static void entriesOfAQueueUpTo20() {
        VillageWaves v = loaded("house 0 0 9 99 1;house 0 0 9 99 1;");
        for (int news = 0; news < 20; news++) {
            due("entries", news, v.house(0, 13));
            v.tell(0, 0);
        }
        due("all", 20, v.house(0, 13));
        due("the other house", 0, v.house(1, 13));
        v.run(1);
        v.correct(0, 0, 1);
        due("a correction in place of the news that was sent", 20, v.house(0, 13));
    }

    @Holds(where = "Promise 13", sentence = "14: houses in its range (as a set)")
    static void noneOrAllOthersAreInRange() {
        VillageWaves v = loaded("house 0 0 150 0 1;" + times(10, "house 0 0 0 0 1;") + "house 99 99 0 0 1;");
        due("all others", 0xFFE, v.house(0, 14));
        due("those at its place", 0x7FD, v.house(1, 14));
        due("none", 0, v.house(11, 14));
    }

    // ---- Promise 14

    @Holds(where = "Promise 14", sentence = "Throws `IndexOutOfBoundsException` if there is no such house or entry")
    static void noSuchEntry() {
        VillageWaves v = loaded("house 0 0 0 0 1;house 9 9 0 0 1;" + times(20, "news 0 0;"));
        due("the first one", 0, v.entry(0, 0, 1));
        due("the last one", 19, v.entry(0, 19, 1));
        for (int index : new int[] {20, -1, LOW, HIGH}) {
            refused("entry " + index, INDEX, () -> v.entry(0, index, 0));
        }
        refused("of an empty queue", INDEX, () -> v.entry(1, 0, 0));
        noSuchHouse(1, house -> loaded("house 0 0 0 0 1;news 0 0;").entry(house, 0, 0));
        VillageWaves mixed = told();
        mixed.tell(0, 1);
        mixed.correct(0, 0, 1);
        due("a correction and a news", 1, mixed.entry(0, 1, 1));
        refused("a third one", INDEX, () -> mixed.entry(0, 2, 0));
    }

    @Holds(where = "Promise 14", sentence = "Throws `IllegalArgumentException` if what is out of range")
    static void factsOfAnEntryFrom0To4() {
        VillageWaves v = loaded("house 0 0 0 0 1;news 0 0;");
        for (int what : new int[] {-1, 5, LOW, HIGH}) {
            refused("what " + what, ARGUMENT, () -> v.entry(0, 0, what));
            refused("of no entry", INDEX, () -> v.entry(0, 1, what));
            refused("of no house", INDEX, () -> v.entry(1, 0, what));
        }
        dueEntry(v, 0, 0, 0, 0, 0, 0, 1);
    }

    @Holds(where = "Promise 14", sentence = "`index`: 0 for the first entry in the order of its queue")
    static void entriesInTheirOrder() {
        VillageWaves v = loaded("house 0 0 9 99 1;house 9 0 9 99 1;news 0 0;news 0 0;news 0 0;");
        v.run(6);
        due("all is sent", 0, v.count(13));
        v.tell(0, 1);
        v.charge(0, -999);
        v.run(1);
        v.correct(0, 2, 0);
        v.run(1);
        v.correct(0, 1, 0);
        v.correct(0, 0, 0);
        v.tell(0, 2);
        int[] numbers = {2, 0, 1, 3, 4};
        int[] entered = {7, 8, 8, 6, 8};
        for (int index = 0; index < 5; index++) {
            due("number at " + index, numbers[index], v.entry(0, index, 1));
            due("time at " + index, entered[index], v.entry(0, index, 2));
            due("kind at " + index, index < 3 ? 1 : 0, v.entry(0, index, 0));
        }
    }

    @Holds(where = "Promise 14", sentence = "`what`: 0: 1 if it is for a correction, else 0; 1: the number of the news; 2: time;")
    static void theFirstAndTheLastNewsAsEntries() {
        VillageWaves v = loaded("set 2 0;house 0 0 9 0 1;house 0 0 9 0 1;" + times(19, "news 0 0;"));
        v.run(500);
        v.tell(0, 1);
        dueEntry(v, 0, 0, 0, 0, 0, 0, 1);
        dueEntry(v, 0, 18, 0, 18, 0, 0, 1);
        dueEntry(v, 0, 19, 0, 19, 500, 0, 1);
    }

    @Holds(where = "Promise 14", sentence = "3: hops (NONE for a correction);")
    static void hopsOfAnEntry() {
        VillageWaves v = line();
        v.tell(0, 1);
        due("of the author", 0, v.entry(0, 0, 3));
        v.run(1);
        due("of a hearer", 1, v.entry(1, 0, 3));
        v.correct(1, 0, 1);
        due("of a correction", NONE, v.entry(1, 0, 3));
    }

    @Holds(where = "Promise 14", sentence = "4: 1 if it can be sent, else 0")
    static void whetherAnEntryCanBeSent() {
        VillageWaves v = told();
        v.tell(2, 1);
        v.correct(2, 0, 1);
        dueEntry(v, 2, 0, 1, 0, 10, NONE, 0);
        dueEntry(v, 2, 1, 0, 1, 10, 0, 1);
        VillageWaves can = told();
        can.correct(1, 0, 1);
        can.setQuiet(1, 0, 47);
        can.charge(1, -999);
        dueEntry(can, 1, 0, 1, 0, 10, NONE, 1);
        due("though the house does not wish to speak", 0, can.wishes());
    }

    // ---- Promise 15

    @Holds(where = "Promise 15", sentence = "Throws `IndexOutOfBoundsException` if there is no such news")
    static void noSuchNews() {
        VillageWaves v = told();
        for (int news : new int[] {1, -1, 20, LOW, HIGH}) {
            refused("news " + news, INDEX, () -> v.news(news, 0));
            refused("what 10 too", INDEX, () -> v.news(news, 10));
        }
        due("the last one of 20", 0, loaded("house 0 0 0 0 1;" + times(20, "news 0 0;")).news(19, 0));
        refused("of none", INDEX, () -> new VillageWaves().news(0, 0));
    }

    @Holds(where = "Promise 15", sentence = "Throws `IllegalArgumentException` if what is out of range")
    static void factsOfANewsFrom0To9() {
        VillageWaves v = told();
        for (int what : new int[] {-1, 10, LOW, HIGH}) {
            refused("what " + what, ARGUMENT, () -> v.news(0, what));
        }
        due("the first one", 0, v.news(0, 0));
        due("the last one", 2, v.news(0, 9));
    }

    @Holds(where = "Promise 15", sentence = "`what`: 0: author; 1: the time when it was told; 2: BODY;")
    static void theFirstAndTheLastAuthorTimeAndBody() {
        VillageWaves v = loaded(times(12, "house 0 0 0 0 1;") + times(18, "news 0 0;") + "news 11 99;");
        v.run(500);
        v.tell(11, 0);
        dueNews(v, 0, 0, 0, 0);
        dueNews(v, 18, 11, 0, 99);
        dueNews(v, 19, 11, 500, 0);
    }

    @Holds(where = "Promise 15", sentence = "3: BODY of its correction; 4: the house that corrected it; 5: the time when it did (3 to 5: NONE if it is not corrected);")
    static void noneUntilItIsCorrected() {
        VillageWaves v = line();
        v.tell(0, 1);
        dueNews(v, 0, 0, 0, 1, NONE, NONE, NONE);
        v.correct(0, 0, 0);
        dueNews(v, 0, 0, 0, 1, 0, 0, 0);
    }

    @Holds(where = "Promise 15", sentence = "6: houses that know it (as a set); 7: houses that know its correction (as a set);")
    static void oneOrAllHousesKnowIt() {
        VillageWaves v = loaded(chain());
        v.tell(0, 1);
        due("the author", 1, v.news(0, 6));
        v.run(12);
        due("all", 0xFFF, v.news(0, 6));
        due("no correction", 0, v.news(0, 7));
        v.correct(11, 0, 1);
        due("the one that corrected it", 1 << 11, v.news(0, 7));
        v.run(12);
        due("all know the correction", 0xFFF, v.news(0, 7));
    }

    @Holds(where = "Promise 15", sentence = "8: houses that know it, but not its correction, if it is corrected, else 0 (as a set);")
    static void housesThatDoNotKnowTheCorrection() {
        VillageWaves v = told();
        due("not corrected", 0, v.news(0, 8));
        v.correct(0, 0, 1);
        due("two", 0b110, v.news(0, 8));
        v.run(1);
        due("one", 0b100, v.news(0, 8));
        v.run(1);
        due("none", 0, v.news(0, 8));
    }

    @Holds(where = "Promise 15", sentence = "9: the greatest number of hops with which a house got it (0 without any)")
    static void theGreatestNumberOfHops() {
        VillageWaves v = loaded(chain() + "news 0 1;");
        for (int hops = 0; hops <= 11; hops++) {
            due("hops", hops, v.news(0, 9));
            v.run(1);
        }
        VillageWaves fork = loaded("house 20 0 10 99 1;house 30 0 10 99 1;house 40 0 10 99 1;house 10 0 10 99 1 quiet 1 20;"
                + "house 0 0 10 99 1;house 50 0 10 99 1;news 0 1;");
        fork.run(20);
        due("three, to house 5", 3, fork.news(0, 9));
        fork.run(20);
        due("4 got it too, with two", 0b111111, fork.news(0, 6));
        due("not the latest, the greatest", 3, fork.news(0, 9));
        VillageWaves alone = loaded("house 0 0 0 99 1;news 0 1;");
        alone.run(5);
        due("nobody got it", 0, alone.news(0, 9));
    }

    // ---- Promises 16 and 17

    @Holds(where = "Promise 16", sentence = "Returns the source of the house for this news; NONE if it has none.")
    static void theSourceOrNone() {
        VillageWaves v = loaded(chain() + "news 0 1;news 11 1;");
        due("not known yet", NONE, v.source(1, 0));
        v.run(40);
        for (int house = 1; house < 12; house++) {
            due("source of " + house, house - 1, v.source(house, 0));
            due("source of the one beside it", house, v.source(house - 1, 1));
        }
        due("the author", NONE, v.source(0, 0));
        due("the other author", NONE, v.source(11, 1));
        due("the correction alone", NONE, heardCorrectionAlone().source(2, 0));
    }

    /** House 2 heard the correction of the news 0, and never the news. */
    private static VillageWaves heardCorrectionAlone() {
        VillageWaves v = loaded("house 0 0 9 99 1;house 9 0 9 99 1;house 1 0 9 99 1 quiet 0 3;news 0 1;");
        v.run(4);
        v.correct(0, 0, 1);
        v.run(1);
        due("2 learned", 0b110, v.spoken(0, 5));
        return v;
    }

    @Holds(where = "Promise 16", sentence = "Throws `IndexOutOfBoundsException` if there is no such house or news")
    static void theSourceOfNoHouseOrNews() {
        noSuchHouse(3, house -> told().source(house, 0));
        noSuchHouse(1, news -> told().source(0, news));
    }

    @Holds(where = "Promise 17", sentence = "Returns the houses to which this house owes the correction of this news (as a set).")
    static void owesNobodyOrAllOthers() {
        VillageWaves v = loaded("set 4 0;house 0 0 9 99 1;" + times(11, "house 1 0 0 99 1;") + "news 0 1;");
        v.run(1);
        due("not corrected", 0, v.owes(0, 0));
        due("eleven", 11, v.correct(0, 0, 1));
        due("all others", 0xFFE, v.owes(0, 0));
        due("one that does not know it", 0, v.owes(1, 0));
        v.run(1);
        due("nobody", 0, v.owes(0, 0));
        due("one that learned it without the news", 0, heardCorrectionAlone().owes(2, 0));
    }

    @Holds(where = "Promise 17", sentence = "Throws `IndexOutOfBoundsException` if there is no such house or news")
    static void whatNoHouseOwesOrForNoNews() {
        noSuchHouse(3, house -> told().owes(house, 0));
        noSuchHouse(1, news -> told().owes(0, news));
    }

    // ---- Promise 18

    @Holds(where = "Promise 18", sentence = "`index`: 0 for the latest minute in which a house spoke, and so on; the latest 30 are kept")
    static void theLatest30Minutes() {
        for (int more : new int[] {28, 29, 30, 31, 59, 60, 61, 98}) {
            VillageWaves v = chatter();
            due("so many speak", more, v.run(more));
            int kept = Math.min(30, more + 1);
            for (int index = 0; index < kept; index++) {
                due("time of " + index + " of " + (more + 1), more - index, v.spoken(index, 0));
            }
            due("the last one that is kept", kept == more + 1 ? 0 : 1, v.spoken(kept - 1, 2));
            due("one more", NONE, v.spoken(kept, 0));
            due("the 31st", NONE, v.spoken(30, 0));
        }
    }

    @Holds(where = "Promise 18", sentence = "Returns that number; NONE if there is no such minute.")
    static void noneWithoutSuchAMinute() {
        VillageWaves v = line();
        for (int what = 0; what <= 5; what++) {
            due("no minute yet", NONE, v.spoken(0, what));
            due("none at all", NONE, v.spoken(HIGH, what));
        }
        v.run(9);
        due("silent minutes", NONE, v.spoken(0, 0));
        v.tell(0, 1);
        v.run(1);
        dueSpoken(v, 0, 9, 0, 0, 0, 0b10, 0b10);
        dueSpoken(v, 1, NONE, NONE, NONE, NONE, NONE, NONE);
    }

    @Holds(where = "Promise 18", sentence = "Throws `IllegalArgumentException` if index is negative, or what is out of range")
    static void noNegativeIndexAndNoOtherFact() {
        VillageWaves v = told();
        for (int wrong : new int[] {-1, LOW}) {
            refused("index " + wrong, ARGUMENT, () -> v.spoken(wrong, 0));
            refused("both", ARGUMENT, () -> v.spoken(wrong, 6));
        }
        for (int wrong : new int[] {-1, 6, LOW, HIGH}) {
            refused("what " + wrong, ARGUMENT, () -> v.spoken(0, wrong));
            refused("what " + wrong + " of no minute", ARGUMENT, () -> v.spoken(3, wrong));
            refused("what " + wrong + " of one that is not kept", ARGUMENT, () -> v.spoken(30, wrong));
        }
    }

    @Holds(where = "Promise 18", sentence = "`what`: 0: the time; 1: the house; 2: 1 for a correction, else 0; 3: the number of the news;")
    static void theLastHouseAndTheLastNewsSpeak() {
        VillageWaves v = loaded(times(11, "house 0 0 9 0 1;") + "house 0 0 9 99 9;" + times(19, "news 0 0;"));
        v.set(1, 0);
        v.tell(11, 1);
        v.run(1);
        dueSpoken(v, 0, 0, 11, 0, 19, 0x7FF, 0x7FF);
        v.correct(11, 19, 1);
        v.run(1);
        dueSpoken(v, 0, 1, 11, 1, 19, 0x7FF, 0x7FF);
        dueSpoken(v, 1, 0, 11, 0, 19, 0x7FF, 0x7FF);
    }

    @Holds(where = "Promise 18", sentence = "4: the houses that heard it (as a set); 5: those of them that got or learned it by that (as a set)")
    static void nobodyOrAllOthersHeardIt() {
        VillageWaves v = loaded(times(12, "house 0 0 9 99 1;") + "news 11 1;");
        v.run(1);
        dueSpoken(v, 0, 0, 11, 0, 0, 0x7FF, 0x7FF);
        v.run(1);
        due("all others heard it again", 0xFFF & ~(1 << v.spoken(0, 1)), v.spoken(0, 4));
        due("nobody got it", 0, v.spoken(0, 5));
    }

    // ---- Promise 19

    @Holds(where = "Promise 19", sentence = "`body`: 0 to 99")
    static void theLeastAndTheMostBody() {
        VillageWaves v = line();
        due("least", 0, v.tell(0, 0));
        due("most", 1, v.tell(0, 99));
        due("it is kept", 0, v.news(0, 2));
        due("it is kept", 99, v.news(1, 2));
    }

    @Holds(where = "Promise 19", sentence = "Throws `IllegalArgumentException` if body is out of range")
    static void noOtherBody() {
        VillageWaves v = line();
        for (int body : new int[] {-1, 100, LOW, HIGH}) {
            refused("body " + body, ARGUMENT, () -> v.tell(0, body));
        }
        due("no news", 0, v.count(7));
    }

    @Holds(where = "Promise 19", sentence = "Throws `IndexOutOfBoundsException` if there is no such house")
    static void noHouseTells() {
        noSuchHouse(3, house -> line().tell(house, 1));
        refused("a wrong body too", INDEX, () -> line().tell(3, 100));
        refused("of none", INDEX, () -> new VillageWaves().tell(0, 0));
    }

    @Holds(where = "Promise 19", sentence = "it is its author, knows it, and has an entry for it with 0 hops and the present time.")
    static void theAuthorHasAnEntryWhateverHopsAre() {
        VillageWaves v = loaded("set 4 0;house 0 0 9 0 1 quiet 0 47;house 1 0 9 99 1;");
        v.run(500);
        due("though quiet and empty", 0, v.tell(0, 5));
        dueNews(v, 0, 0, 500, 5, NONE, NONE, NONE, 0b01, 0, 0, 0);
        dueEntry(v, 0, 0, 0, 0, 500, 0, 1);
        due("it alone", 1, v.count(13));
    }

    @Holds(where = "Promise 19", sentence = "Returns the number of the news, or the reason (-2).")
    static void numbersUpToTheReason() {
        VillageWaves v = line();
        for (int news = 0; news < 20; news++) {
            due("number", news, v.tell(news % 3, 1));
        }
        due("reason", -2, v.tell(0, 1));
        due("again", -2, v.tell(2, 0));
        due("news", 20, v.count(7));
        due("entries", 20, v.count(13));
    }

    // ---- Promise 20

    @Holds(where = "Promise 20", sentence = "`body`: 0 to 99")
    static void theLeastAndTheMostBodyOfACorrection() {
        VillageWaves v = line();
        v.tell(0, 5);
        v.tell(0, 5);
        v.correct(0, 0, 0);
        v.correct(0, 1, 99);
        due("least", 0, v.news(0, 3));
        due("most", 99, v.news(1, 3));
    }

    @Holds(where = "Promise 20", sentence = "A house corrects a news: it learns the correction.")
    static void theCorrectorNeedNotBeTheAuthorNorAwake() {
        VillageWaves v = told();
        v.tell(2, 1);
        v.setQuiet(2, 0, 47);
        v.charge(2, -999);
        due("it owes 1", 1, v.correct(2, 0, 8));
        dueNews(v, 0, 0, 0, 7, 8, 2, 10, 0b111, 0b100, 0b011, 2);
        dueEntry(v, 2, 0, 1, 0, 10, NONE, 0);
        due("its own news stays in its queue", 2, v.house(2, 13));
    }

    @Holds(where = "Promise 20", sentence = "Throws `IllegalArgumentException` if body is out of range")
    static void noOtherBodyOfACorrection() {
        VillageWaves v = told();
        for (int body : new int[] {-1, 100, LOW, HIGH}) {
            refused("body " + body, ARGUMENT, () -> v.correct(0, 0, body));
        }
        due("not corrected", 0, v.count(12));
    }

    @Holds(where = "Promise 20", sentence = "Throws `IndexOutOfBoundsException` if there is no such house or news")
    static void noHouseCorrectsAndNoNewsIsCorrected() {
        noSuchHouse(3, house -> told().correct(house, 0, 1));
        noSuchHouse(1, news -> told().correct(0, news, 1));
        refused("a wrong body too", INDEX, () -> told().correct(3, 0, 100));
        refused("a wrong body too", INDEX, () -> told().correct(0, 1, 100));
    }

    @Holds(where = "Promise 20", sentence = "Returns the number of houses to which it owes the correction then, or the reason (-3, -4).")
    static void numbersOfOwedHousesAndReasons() {
        VillageWaves v = told();
        v.tell(2, 1);
        due("nobody", 0, v.correct(2, 1, 1));
        due("both sides", 2, v.correct(1, 0, 1));
        due("again", -4, v.correct(0, 0, 1));
        due("the news is not known", -3, v.correct(0, 1, 1));
        due("one", 1, told().correct(2, 0, 1));
    }

    // ---- Promise 21

    @Holds(where = "Promise 21", sentence = "`minutes`: 1 to 500")
    static void theLeastAndTheMostMinutes() {
        VillageWaves v = line();
        v.run(1);
        due("1", 1, v.count(8));
        v.run(500);
        due("500", 501, v.count(8));
    }

    @Holds(where = "Promise 21", sentence = "Throws `IllegalArgumentException` if minutes is out of range")
    static void noOtherMinutes() {
        VillageWaves v = line();
        for (int minutes : new int[] {0, -1, 501, LOW, HIGH}) {
            refused("minutes " + minutes, ARGUMENT, () -> v.run(minutes));
        }
        due("the time", 0, v.count(8));
    }

    @Holds(where = "Promise 21", sentence = "Returns in how many of them a house spoke.")
    static void noneSomeOrAllMinutes() {
        VillageWaves v = line();
        due("none", 0, v.run(500));
        v.tell(0, 1);
        due("the first three", 3, v.run(500));
        due("none again", 0, v.run(1));
        due("all", 50, chatter().run(50));
    }

    // ---- Promises 22 to 24

    @Holds(where = "Promise 22", sentence = "Returns the houses that would wish to speak in the next minute (behind its step 1), as a set.")
    static void wishesBehindTheFirstStep() {
        VillageWaves v = loaded("house 0 0 0 4 1;house 9 9 0 0 1;house 50 50 0 0 1;news 0 1;news 1 1;set 2 5;");
        due("no day begins at 0", 0, v.wishes());
        v.run(47);
        due("nor at 47", 0, v.wishes());
        v.run(1);
        due("at 48 they are charged", 0b11, v.wishes());
        due("but not yet", 4, v.house(0, 3));
        due("time", 48, v.count(8));
        VillageWaves quota = loaded("set 3 1;house 0 0 0 99 1;news 0 1;news 0 2;");
        quota.run(47);
        due("QUOTA at 47", 0, quota.wishes());
        quota.run(1);
        due("QUOTA at 48", 1, quota.wishes());
        due("and of the first day still", 1, quota.house(0, 8));
        due("without houses", 0, new VillageWaves().wishes());
    }

    @Holds(where = "Promise 22", sentence = "as a set.")
    static void allHousesWish() {
        VillageWaves v = loaded(times(12, "house 0 0 0 99 1;"));
        for (int house = 0; house < 12; house++) {
            v.tell(house, 1);
        }
        due("all", 0xFFF, v.wishes());
    }

    @Holds(where = "Promise 23", sentence = "Returns the house that would speak in the next minute; NONE if none wishes to.")
    static void theNextSpeakerOrNone() {
        VillageWaves v = loaded("set 2 5;house 0 0 0 0 1;news 0 1;");
        due("none wishes to", NONE, v.next());
        v.run(47);
        due("none at 47", NONE, v.next());
        v.run(1);
        due("house 0 at 48", 0, v.next());
        due("X stays", 1, v.count(9));
        v.run(1);
        due("it spoke", 48, v.spoken(0, 0));
        due("none again", NONE, v.next());
        due("without houses", NONE, new VillageWaves().next());
    }

    @Holds(where = "Promise 23", sentence = "Returns the house that would speak in the next minute;")
    static void theNextSpeakerIsTheOneThatIsDrawn() {
        for (int drawn = 0; drawn < 11; drawn++) {
            VillageWaves v = loaded("house 0 0 0 99 1;house 9 0 0 99 9;house 0 9 0 99 1;news 0 1;news 1 1;news 2 1;seed "
                    + seedFor(11, drawn) + ";");
            due("next of " + drawn, drawn == 0 ? 0 : drawn == 10 ? 2 : 1, v.next());
        }
    }

    @Holds(where = "Promise 24", sentence = "its SHARE divided by the sum of the SHAREs of all houses that would wish to speak, both converted to double;")
    static void thePartOfTheNumbers() {
        VillageWaves v = loaded("house 0 0 0 99 1;" + times(11, "house 9 9 0 99 9;"));
        v.tell(0, 1);
        due("all numbers", 1.0, v.chance(0));
        for (int house = 1; house < 12; house++) {
            v.tell(house, 1);
        }
        due("1 of 100", 1.0 / 100.0, v.chance(0));
        due("9 of 100", 9.0 / 100.0, v.chance(11));
        VillageWaves thirds = loaded("house 0 0 0 99 1;house 9 9 0 99 2;news 0 1;news 1 1;");
        due("a third", 1.0 / 3.0, thirds.chance(0));
        due("two thirds", 2.0 / 3.0, thirds.chance(1));
        thirds.run(48);
        thirds.charge(0, -999);
        thirds.charge(1, -999);
        thirds.tell(0, 1);
        due("behind step 1", 1.0, thirds.chance(0));
    }

    @Holds(where = "Promise 24", sentence = "0.0 if it would not wish to.")
    static void noChanceWithoutAWish() {
        VillageWaves v = line();
        due("nobody wishes", 0.0, v.chance(0));
        v.tell(1, 1);
        due("another one wishes", 0.0, v.chance(0));
        v.setQuiet(1, 0, 0);
        due("it is quiet", 0.0, v.chance(1));
    }

    @Holds(where = "Promise 24", sentence = "Throws `IndexOutOfBoundsException` if there is no such house")
    static void noChanceOfNoHouse() {
        noSuchHouse(3, house -> line().chance(house));
        refused("of none", INDEX, () -> new VillageWaves().chance(0));
    }

    // ---- Promise 25

    @Holds(where = "Promise 25", sentence = "Returns the other house that is the one at this place by distance, of several the lowest first; NONE if there are not so many.")
    static void theNearestOfSeveralIsTheLowest() {
        VillageWaves v = loaded("house 50 50 0 0 1;house 55 50 0 0 1;house 50 45 0 0 1;house 53 54 0 0 1;house 50 50 0 0 1;"
                + "house 54 53 0 0 1;house 54 54 0 0 1;house 52 54 0 0 1;");
        int[] order = {4, 7, 1, 2, 3, 5, 6, NONE, NONE};
        for (int index = 0; index < order.length; index++) {
            due("place " + index, order[index], v.near(0, index));
        }
        due("from the same place", 0, v.near(4, 0));
        due("and the next one", 7, v.near(4, 1));
        due("far too many", NONE, v.near(0, HIGH));
        due("alone", NONE, loaded("house 0 0 0 0 1;").near(0, 0));
    }

    @Holds(where = "Promise 25", sentence = "`index`: 0 for the nearest other house")
    static void elevenOtherHouses() {
        VillageWaves v = loaded(chain());
        for (int index = 0; index < 11; index++) {
            due("place " + index, index + 1, v.near(0, index));
            due("place from the other end", 10 - index, v.near(11, index));
        }
        due("a twelfth", NONE, v.near(0, 11));
    }

    @Holds(where = "Promise 25", sentence = "Throws `IndexOutOfBoundsException` if there is no such house, or index is negative")
    static void noNegativePlace() {
        noSuchHouse(3, house -> line().near(house, 0));
        refused("-1", INDEX, () -> line().near(0, -1));
        refused("the lowest", INDEX, () -> line().near(0, LOW));
    }

    // ---- Promises 26 to 28

    @Holds(where = "Promise 26", sentence = "Returns the least number of times that something must be sent so that it comes from one to the other one, by ranges;")
    static void theLeastNumberOfSendings() {
        VillageWaves v = loaded(chain());
        for (int from = 0; from < 12; from++) {
            due("to 0", from, v.hops(from, 0));
            due("to 11", 11 - from, v.hops(from, 11));
        }
        VillageWaves ring = loaded("house 0 0 5 0 1;house 5 0 5 0 1;house 10 0 5 0 1;house 10 5 5 0 1;house 0 5 5 0 1;house 5 5 0 0 1;");
        due("around the one that reaches none", 3, ring.hops(0, 3));
        due("the short way", 2, ring.hops(0, 5));
        due("from one that reaches none", NONE, ring.hops(5, 4));
    }

    @Holds(where = "Promise 26", sentence = "0 from a house to itself; NONE if it cannot come there.")
    static void noSendingToItselfAndNoneBeyondTheRanges() {
        VillageWaves v = line();
        for (int house = 0; house < 3; house++) {
            due("itself", 0, v.hops(house, house));
        }
        due("not back", NONE, v.hops(2, 1));
        due("nor over it", NONE, v.hops(2, 0));
        due("the same place without a range", 1, loaded("house 1 1 0 0 1;house 1 1 0 0 1;").hops(0, 1));
        due("just beyond", NONE, loaded("house 0 0 4 0 1;house 5 0 4 0 1;").hops(0, 1));
    }

    @Holds(where = "Promise 26", sentence = "Throws `IndexOutOfBoundsException` if there is no such house")
    static void noSendingFromOrToNoHouse() {
        noSuchHouse(3, from -> line().hops(from, 0));
        noSuchHouse(3, to -> line().hops(0, to));
        refused("itself", INDEX, () -> line().hops(3, 3));
    }

    @Holds(where = "Promise 27", sentence = "Returns how many minutes of a day both are not quiet.")
    static void fromNoMinuteToTheWholeDay() {
        for (int day : new int[] {24, 48, 240}) {
            VillageWaves v = loaded("day " + day + ";house 0 0 0 0 1;house 0 0 0 0 1;");
            due("never quiet", day, v.overlap(0, 1));
            v.setQuiet(0, 5, 5);
            due("one minute", day - 1, v.overlap(0, 1));
            v.setQuiet(1, 5, 5);
            due("the same minute", day - 1, v.overlap(0, 1));
            v.setQuiet(1, 6, 4);
            due("none, together", 0, v.overlap(0, 1));
            due("itself", 1, v.overlap(1, 1));
            v.setQuiet(1, day - 1, 0);
            due("over the end of the day", day - 3, v.overlap(1, 0));
            v.setQuiet(0, 0, day - 1);
            due("none", 0, v.overlap(0, 1));
            v.run(7);
            due("whatever the time is", day - 2, v.overlap(1, 1));
        }
    }

    @Holds(where = "Promise 27", sentence = "Throws `IndexOutOfBoundsException` if there is no such house")
    static void noOverlapWithNoHouse() {
        noSuchHouse(3, one -> line().overlap(one, 0));
        noSuchHouse(3, other -> line().overlap(0, other));
    }

    @Holds(where = "Promise 28", sentence = "their sum divided by their number, both converted to float; -1 without houses.")
    static void theMeanOfNoneOneAndTwelve() {
        due("without houses", -1f, new VillageWaves().meanBattery());
        VillageWaves v = loaded("house 0 0 0 0 1;");
        due("empty", 0f, v.meanBattery());
        v.addHouse(0, 0, 0, 1, 1);
        due("a half", 0.5f, v.meanBattery());
        v.addHouse(0, 0, 0, 0, 1);
        due("a third", 1f / 3f, v.meanBattery());
        due("all full", 999f, loaded(times(12, "house 0 0 0 999 1;")).meanBattery());
        due("11 of 12", 10989f / 12f, loaded(times(11, "house 0 0 0 999 1;") + "house 0 0 0 0 1;").meanBattery());
    }

    // ---- Promise 29

    @Holds(where = "Promise 29", sentence = "`minutes`: 1 to 500")
    static void reachedInOneOrIn500Minutes() {
        VillageWaves v = line();
        v.tell(0, 1);
        due("1", 2, v.reached(0, 1, 0));
        due("2", 3, v.reached(0, 2, 0));
        due("500", 3, v.reached(0, 500, 0));
        VillageWaves last = speaksInMinute500();
        due("499 are too few", 1, last.reached(0, 499, 1));
        due("500 are just enough", 2, last.reached(0, 500, 1));
    }

    @Holds(where = "Promise 29", sentence = "Throws `IllegalArgumentException` if minutes or what is out of range")
    static void reachedInNoOtherMinutes() {
        VillageWaves v = told();
        for (int minutes : new int[] {0, -1, 501, LOW, HIGH}) {
            refused("minutes " + minutes, ARGUMENT, () -> v.reached(0, minutes, 0));
        }
        for (int what : new int[] {-1, 3, LOW, HIGH}) {
            refused("what " + what, ARGUMENT, () -> v.reached(0, 1, what));
        }
    }

    @Holds(where = "Promise 29", sentence = "Throws `IndexOutOfBoundsException` if there is no such news")
    static void reachedByNoNews() {
        noSuchHouse(1, news -> told().reached(news, 1, 0));
        refused("wrong minutes too", INDEX, () -> told().reached(1, 0, 3));
    }

    @Holds(where = "Promise 29", sentence = "0: houses that know it behind these minutes; 1: houses that know its correction;")
    static void fromTheAuthorAloneToAllHouses() {
        VillageWaves v = loaded(chain() + "news 0 1;");
        for (int minutes = 1; minutes <= 13; minutes++) {
            due("behind " + minutes, Math.min(12, minutes + 1), v.reached(0, minutes, 0));
            due("no correction", 0, v.reached(0, minutes, 1));
        }
        v.run(12);
        v.correct(11, 0, 1);
        for (int minutes = 1; minutes <= 13; minutes++) {
            due("the correction behind " + minutes, Math.min(12, minutes + 1), v.reached(0, minutes, 1));
        }
        VillageWaves alone = loaded("house 0 0 0 99 1;news 0 1;");
        due("the author alone", 1, alone.reached(0, 500, 0));
    }

    @Holds(where = "Promise 29", sentence = "2: houses that know it, but not its correction (0 if it is not corrected)")
    static void noneIsWrongUntilItIsCorrected() {
        VillageWaves v = told();
        due("they know it", 3, v.reached(0, 1, 0));
        due("no correction", 0, v.reached(0, 1, 1));
        due("not corrected", 0, v.reached(0, 1, 2));
        v.correct(0, 0, 1);
        due("one learned", 2, v.reached(0, 1, 1));
        due("one did not", 1, v.reached(0, 1, 2));
        due("all learned", 0, v.reached(0, 2, 2));
    }

    // ---- Promise 30

    @Holds(where = "Promise 30", sentence = "Returns behind how many minutes each house that knows the news knows its correction; 0 if it is so now;")
    static void nowOrBehindSomeMinutes() {
        VillageWaves v = told();
        v.correct(0, 0, 1);
        due("two", 2, v.correctedIn(0, 500));
        v.run(1);
        due("one", 1, v.correctedIn(0, 500));
        due("one of one", 1, v.correctedIn(0, 1));
        v.run(1);
        due("now", 0, v.correctedIn(0, 500));
        VillageWaves alone = loaded("house 0 0 0 99 1;house 9 9 0 99 1;news 0 1;");
        alone.correct(0, 0, 1);
        due("the author alone, now", 0, alone.correctedIn(0, 1));
    }

    @Holds(where = "Promise 30", sentence = "NONE if it is not so within so many, or the news is not corrected.")
    static void notWithinSoMany() {
        VillageWaves v = told();
        due("not corrected", NONE, v.correctedIn(0, 500));
        v.correct(0, 0, 1);
        due("one fewer", NONE, v.correctedIn(0, 1));
        due("just so many", 2, v.correctedIn(0, 2));
        VillageWaves never = told();
        never.correct(2, 0, 1);
        due("never", NONE, never.correctedIn(0, 500));
        VillageWaves alone = loaded("house 0 0 0 99 1;news 0 1;");
        due("nobody else, and not corrected", NONE, alone.correctedIn(0, 1));
        VillageWaves far = speaksInMinute500();
        due("499", NONE, far.correctedIn(0, 499));
        due("500", 500, far.correctedIn(0, 500));
    }

    /** House 0 owes a correction to 1, and its battery is enough for that in the 500th minute from now on. */
    private static VillageWaves speaksInMinute500() {
        VillageWaves v = loaded("day 240;set 0 50;set 2 20;house 0 0 9 50 1;house 1 0 0 99 1;news 0 1;");
        v.run(221);
        v.correct(0, 0, 1);
        return v;
    }

    @Holds(where = "Promise 30", sentence = "`most`: 1 to 500")
    static void withinOneOrWithin500Minutes() {
        VillageWaves v = loaded("house 0 0 9 99 1;house 1 0 9 99 1;news 0 1;");
        v.run(5);
        v.correct(0, 0, 1);
        due("within 1", 1, v.correctedIn(0, 1));
        due("within 500", 1, v.correctedIn(0, 500));
        v.setQuiet(0, 5, 5);
        due("not within 1", NONE, v.correctedIn(0, 1));
        due("within 2", 2, v.correctedIn(0, 2));
    }

    @Holds(where = "Promise 30", sentence = "Throws `IllegalArgumentException` if most is out of range")
    static void correctedInNoOtherMinutes() {
        VillageWaves v = told();
        for (int most : new int[] {0, -1, 501, LOW, HIGH}) {
            refused("most " + most, ARGUMENT, () -> v.correctedIn(0, most));
        }
        v.correct(0, 0, 1);
        v.run(2);
        refused("though it is so now", ARGUMENT, () -> v.correctedIn(0, 0));
    }

    @Holds(where = "Promise 30", sentence = "Throws `IndexOutOfBoundsException` if there is no such news")
    static void correctedInOfNoNews() {
        noSuchHouse(1, news -> told().correctedIn(news, 1));
        refused("wrong minutes too", INDEX, () -> told().correctedIn(1, 0));
    }

    // ---- Promise 31

    @Holds(where = "Promise 31", sentence = "`minutes`: 1 to 500")
    static void aheadByOneOrBy500Minutes() {
        VillageWaves v = line();
        v.tell(0, 1);
        due("1", 1, v.ahead(1, 0));
        due("2", 2, v.ahead(2, 0));
        due("500", 3, v.ahead(500, 0));
        VillageWaves last = speaksInMinute500();
        due("499 are too few", 0, last.ahead(499, 0));
        due("500 are just enough", 1, last.ahead(500, 0));
    }

    @Holds(where = "Promise 31", sentence = "Throws `IllegalArgumentException` if minutes or what is out of range")
    static void aheadByNoOtherMinutes() {
        VillageWaves v = told();
        for (int minutes : new int[] {0, -1, 501, LOW, HIGH}) {
            refused("minutes " + minutes, ARGUMENT, () -> v.ahead(minutes, 0));
        }
        for (int what : new int[] {-1, 4, LOW, HIGH}) {
            refused("what " + what, ARGUMENT, () -> v.ahead(1, what));
        }
        refused("without houses too", ARGUMENT, () -> new VillageWaves().ahead(1, 4));
    }

    @Holds(where = "Promise 31", sentence = "0: minutes in which a house speaks;")
    static void onlyMinutesFromNowOn() {
        VillageWaves v = chatter();
        due("all of them", 50, v.ahead(50, 0));
        due("those of this day, and of the next one", 99, v.ahead(500, 0));
        v.run(98);
        due("not those that are over", 0, v.ahead(141, 0));
        due("the first one of the next day", 1, v.ahead(142, 0));
        due("without houses", 0, new VillageWaves().ahead(500, 0));
    }

    @Holds(where = "Promise 31", sentence = "1: houses that get a news (each one counts for each news);")
    static void eachHouseForEachNews() {
        VillageWaves v = told();
        due("nothing new", 0, v.ahead(500, 1));
        v.tell(0, 1);
        v.tell(1, 1);
        due("twice two, without the authors", 4, v.ahead(500, 1));
        v.tell(2, 1);
        due("nobody from house 2", 4, v.ahead(500, 1));
        due("all others of all news", 220, loaded("set 0 1;set 1 0;set 3 99;" + times(12, "house 0 0 9 99 1;")
                + times(20, "news 0 1;")).ahead(500, 1));
    }

    @Holds(where = "Promise 31", sentence = "2: corrections that are learned, likewise;")
    static void eachHouseForEachCorrection() {
        VillageWaves v = told();
        v.tell(1, 1);
        v.run(5);
        due("none is corrected", 0, v.ahead(500, 2));
        v.correct(0, 0, 1);
        v.correct(1, 1, 1);
        due("twice two, without the correctors", 4, v.ahead(500, 2));
        VillageWaves alone = loaded("house 0 0 9 99 1;house 9 0 9 99 1;house 1 0 9 99 1 quiet 0 3;news 0 1;");
        alone.run(4);
        alone.correct(0, 0, 1);
        due("also without the news", 2, alone.ahead(1, 2));
        due("which is not got then", 0, alone.ahead(500, 1));
    }

    @Holds(where = "Promise 31", sentence = "3: what all batteries lose by speaking and listening")
    static void lossesWithoutWhatIsCharged() {
        VillageWaves v = loaded("set 0 50;set 1 20;set 2 200;house 0 0 9 999 1;house 1 0 0 20 1;house 2 0 0 19 1;news 0 1;");
        due("one speaks, one listens", 70, v.ahead(1, 3));
        due("as long as nothing is said", 70, v.ahead(48, 3));
        due("at 48 house 1 speaks, charged", 120, v.ahead(49, 3));
        v.run(48);
        due("not what is over", 50, v.ahead(500, 3));
        VillageWaves silent = loaded("house 0 0 9 99 1;");
        due("nobody speaks", 0, silent.ahead(500, 3));
        VillageWaves free = loaded("set 0 1;set 1 0;house 0 0 9 1 1;house 1 0 0 0 1;news 0 1;");
        due("listening for nothing", 1, free.ahead(1, 3));
    }

    // ---- Promise 32

    @Holds(where = "Promise 32", sentence = "`minutes`: 1 to 200")
    static void triedForOneOrFor200Minutes() {
        VillageWaves v = line();
        due("in one minute 1 reaches two", 1, v.bestAuthor(1));
        due("in two 0 reaches two as well", 0, v.bestAuthor(2));
        due("in 200", 0, v.bestAuthor(200));
        VillageWaves late = loaded("day 240;set 0 50;set 2 60;house 0 0 0 99 1;house 5 0 9 0 1;");
        late.run(41);
        due("199 are too few for 1 to be charged", 0, late.bestAuthor(199));
        due("200 are just enough", 1, late.bestAuthor(200));
    }

    @Holds(where = "Promise 32", sentence = "Throws `IllegalArgumentException` if minutes is out of range")
    static void triedForNoOtherMinutes() {
        VillageWaves full = loaded("house 0 0 0 0 1;" + times(20, "news 0 0;"));
        for (int minutes : new int[] {0, -1, 201, 500, LOW, HIGH}) {
            refused("minutes " + minutes, ARGUMENT, () -> line().bestAuthor(minutes));
            refused("without houses", ARGUMENT, () -> new VillageWaves().bestAuthor(minutes));
            refused("with 20 news", ARGUMENT, () -> full.bestAuthor(minutes));
        }
    }

    @Holds(where = "Promise 32", sentence = "Returns the house with which most houses know that news then,")
    static void theLastOfTwelveReachesOneMore() {
        String text = times(11, "house 0 0 1 9 1;") + "house 1 0 1 9 1;";
        due("all reach all", 0, loaded("set 4 0;" + text).bestAuthor(1));
        due("the last one has the range", 11, loaded("set 4 0;" + text.replace("0 0 1 9", "0 0 0 9")).bestAuthor(1));
    }

    @Holds(where = "Promise 32", sentence = "of several the lowest;")
    static void ofSeveralTheLowestAuthor() {
        due("one each", 0, loaded(times(12, "house 0 0 0 0 1;")).bestAuthor(200));
        due("two each, but for 0", 1, loaded("house 50 50 0 99 1;house 0 0 1 99 1;house 1 0 1 99 1;").bestAuthor(10));
        due("the last one alone", 2, loaded("house 0 0 0 99 1;house 9 0 0 99 1;house 4 0 5 99 1;").bestAuthor(10));
        due("a house alone", 0, loaded("house 0 0 0 0 1;").bestAuthor(1));
    }

    @Holds(where = "Promise 32", sentence = "NONE if there are no houses, or there are 20 news.")
    static void noAuthorWithoutHousesOrWith20News() {
        due("no houses", NONE, new VillageWaves().bestAuthor(1));
        due("19 news", 0, loaded("house 0 0 0 0 1;" + times(19, "news 0 0;")).bestAuthor(1));
        due("20 news", NONE, loaded("house 0 0 0 0 1;" + times(20, "news 0 0;")).bestAuthor(1));
    }

    @Holds(where = "Promise 32", sentence = "for each house it is tried, from the present state on, that it tells a news with the BODY 0 and so many minutes pass.")
    static void eachHouseIsTriedFromThePresentStateOn() {
        VillageWaves v = told();
        v.tell(2, 1);
        v.save(0);
        due("each is tried anew", 0, v.bestAuthor(200));
        due("no news is left of it", 2, v.count(7));
        due("no time", 10, v.count(8));
        VillageWaves twin = told();
        twin.tell(2, 1);
        twin.save(0);
        due("all there is", stateOf(twin), stateOf(v));
        VillageWaves tired = loaded("house 0 0 5 99 1;house 5 0 9 5 1;house 14 0 0 99 1;");
        due("1 has not heard what was tried for 0", 1, tired.bestAuthor(9));
    }

    // ---- Promises 33 and 34

    @Holds(where = "Promise 33", sentence = "`slot`: 0 or 1; a state that is already saved there is replaced")
    static void twoSlotsOfTheLatestStates() {
        VillageWaves v = line();
        v.save(0);
        v.run(1);
        v.save(1);
        v.run(1);
        v.restore(0);
        due("slot 0", 0, v.count(8));
        v.restore(1);
        due("slot 1", 1, v.count(8));
        v.run(5);
        v.save(0);
        v.run(1);
        v.save(0);
        v.restore(1);
        due("slot 1 stays", 1, v.count(8));
        v.restore(0);
        due("slot 0 was replaced", 7, v.count(8));
    }

    @Holds(where = "Promise 33", sentence = "Throws `IllegalArgumentException` if slot is out of range")
    static void savesInNoOtherSlot() {
        VillageWaves v = line();
        for (int slot : new int[] {-1, 2, 32, LOW, HIGH}) {
            refused("slot " + slot, ARGUMENT, () -> v.save(slot));
        }
        refused("nothing is saved in 0", STATE, () -> v.restore(0));
        refused("nothing is saved in 1", STATE, () -> v.restore(1));
    }

    @Holds(where = "Promise 33", sentence = "Saves everything except the text buffer, the latest error and the saved states.")
    static void whatIsSavedAndWhatIsNot() {
        VillageWaves v = changedInAll();
        write(v, "x");
        v.load();
        write(v, "seed 5;");
        v.save(0);
        v.load();
        v.save(1);
        write(v, "day 1");
        v.restore(0);
        due("everything", seen(changedInAll()), seen(v));
        due("the error of the latest load", 0, v.errorCode());
        due("its position", NONE, v.errorPosition());
        due("the text", 5, v.truncateText(5));
        v.load();
        due("with its error", 2, v.errorCode());
        due("at its place", 4, v.errorPosition());
        v.restore(1);
        due("the other saved state stays", 5, v.count(9));
        due("and the error too", 4, v.errorPosition());
    }

    @Holds(where = "Promise 34", sentence = "Brings back a saved state, which stays saved.")
    static void aSavedStateStaysSaved() {
        VillageWaves v = changedInAll();
        v.save(1);
        String due = seen(changedInAll());
        for (int again = 0; again < 2; again++) {
            v.run(500);
            v.correct(0, 0, 3);
            v.tell(0, 4);
            v.charge(0, -999);
            v.restore(1);
        }
        due("twice", due, seen(v));
        VillageWaves other = changedInAll();
        other.save(1);
        write(other, "house 0 0 0 99 1;house 9 9 0 99 1;");
        other.load();
        other.run(7);
        for (int news = 0; news < 4; news++) {
            other.tell(1, 9);
        }
        other.correct(1, 3, 1);
        other.run(9);
        other.restore(1);
        due("behind a load", due, seen(other));
    }

    @Holds(where = "Promise 34", sentence = "`slot`: 0 or 1")
    static void eachSlotBringsBackItsOwn() {
        VillageWaves v = line();
        v.save(1);
        v.seed(77);
        v.save(0);
        v.seed(99);
        v.restore(1);
        due("slot 1", 1, v.count(9));
        v.restore(0);
        due("slot 0", 77, v.count(9));
        v.restore(1);
        due("slot 1, again", 1, v.count(9));
    }

    @Holds(where = "Promise 34", sentence = "Throws `IllegalStateException` if nothing is saved there")
    static void nothingIsSavedThere() {
        VillageWaves v = line();
        refused("slot 0", STATE, () -> v.restore(0));
        refused("slot 1", STATE, () -> v.restore(1));
        v.save(0);
        refused("slot 1, still", STATE, () -> v.restore(1));
        v.restore(0);
        VillageWaves other = line();
        other.save(1);
        refused("slot 0 of another one", STATE, () -> other.restore(0));
        other.restore(1);
    }

    @Holds(where = "Promise 34", sentence = "Throws `IllegalArgumentException` if slot is out of range")
    static void restoresNoOtherSlot() {
        VillageWaves v = line();
        for (int slot : new int[] {-1, 2, 32, LOW, HIGH}) {
            refused("slot " + slot + " of none", ARGUMENT, () -> v.restore(slot));
        }
        v.save(0);
        v.save(1);
        for (int slot : new int[] {-1, 2, 32, LOW, HIGH}) {
            refused("slot " + slot, ARGUMENT, () -> v.restore(slot));
        }
    }
}
