import java.nio.charset.StandardCharsets;
import java.util.function.Supplier;

/** For each promise of the document: ordinary inputs, the edges that it names, and wrong inputs. */
public final class PromisesTest {
    private static final int NONE = VillageWaves.NONE;
    private static final int LOW = Integer.MIN_VALUE;
    private static final int HIGH = Integer.MAX_VALUE;
    private static final String INDEX = "IndexOutOfBoundsException";
    private static final String ARGUMENT = "IllegalArgumentException";
    private static final String STATE = "IllegalStateException";

    private static int promise = 0;
    private static int checks = 0;
    private static int wrong = 0;

    public static void main(String[] args) {
        Runnable[] promises = {
            PromisesTest::newObject, PromisesTest::appendText, PromisesTest::truncateText, PromisesTest::load,
            PromisesTest::errorCode, PromisesTest::errorPosition, PromisesTest::addHouse, PromisesTest::setQuiet,
            PromisesTest::charge, PromisesTest::set, PromisesTest::seed, PromisesTest::count, PromisesTest::house,
            PromisesTest::entry, PromisesTest::news, PromisesTest::source, PromisesTest::owes, PromisesTest::spoken,
            PromisesTest::tell, PromisesTest::correct, PromisesTest::run, PromisesTest::wishes, PromisesTest::next,
            PromisesTest::chance, PromisesTest::near, PromisesTest::hops, PromisesTest::overlap,
            PromisesTest::meanBattery, PromisesTest::reached, PromisesTest::correctedIn, PromisesTest::ahead,
            PromisesTest::bestAuthor, PromisesTest::save, PromisesTest::restore};
        for (Runnable each : promises) {
            promise++;
            each.run();
        }
        System.out.println(checks + " checks of " + promise + " promises, " + wrong + " wrong");
        if (wrong != 0) {
            System.exit(1);
        }
    }

    // ---- helpers

    private static void due(String call, Object want, Object got) {
        checks++;
        if (!want.equals(got)) {
            wrong++;
            System.out.println("promise " + promise + ": " + call + " answered " + got + ", due is " + want);
        }
    }

    private static void dueThrow(String call, String want, Supplier<Object> run) {
        Object got;
        try {
            got = run.get();
        } catch (RuntimeException e) {
            got = e.getClass().getSimpleName();
        }
        due(call, want, got);
    }

    private static void dueThrow(String call, String want, Runnable run) {
        dueThrow(call, want, () -> {
            run.run();
            return "nothing";
        });
    }

    private static void write(VillageWaves v, String text) {
        v.truncateText(0);
        byte[] bytes = text.getBytes(StandardCharsets.ISO_8859_1);
        for (int at = 0; at < bytes.length; at += 4) {
            int four = 0;
            for (int i = at; i < at + 4; i++) {
                four = four << 8 | (i < bytes.length ? bytes[i] & 255 : 0);
            }
            v.appendText(four);
        }
        v.truncateText(bytes.length);
    }

    private static VillageWaves loaded(String text) {
        VillageWaves v = new VillageWaves();
        write(v, text);
        v.load();
        due("errorCode of " + text, 0, v.errorCode());
        return v;
    }

    /** Three houses in a line: 0 and 1 reach their neighbours, 2 reaches none. */
    private static VillageWaves line() {
        return loaded("house 0 0 10 100 1;house 10 0 10 100 2;house 20 0 5 100 1;");
    }

    /** The news 0 of house 0 came to house 1, and from it to house 2; the time is 10. */
    private static VillageWaves told() {
        VillageWaves v = line();
        v.tell(0, 7);
        v.run(10);
        return v;
    }

    /** Behind news 0: 0 told 1 and 2, and 1 told 3; 1 has all in its range; the time is 10. */
    private static VillageWaves tree() {
        VillageWaves v = loaded("house 0 0 10 100 1;house 6 0 20 100 1;house 0 10 0 100 1;house 20 0 0 100 1;");
        v.tell(0, 7);
        v.run(10);
        return v;
    }

    private static String times(int number, String part) {
        return part.repeat(number);
    }

    // ---- promises 1 to 6

    private static void newObject() {
        VillageWaves v = new VillageWaves();
        int[] first = {5, 1, 40, 10, 11, 48, 0, 0, 0, 1, 0, 0, 0, 0};
        for (int what = 0; what < first.length; what++) {
            due("count " + what, first[what], v.count(what));
        }
        due("errorCode", 0, v.errorCode());
        due("errorPosition", NONE, v.errorPosition());
        due("NONE", -1, VillageWaves.NONE);
        due("no text", 0, v.truncateText(0));
        dueThrow("no text to cut", ARGUMENT, () -> v.truncateText(1));
        dueThrow("nothing saved in 0", STATE, () -> v.restore(0));
        dueThrow("nothing saved in 1", STATE, () -> v.restore(1));
        due("load of no text", 0, v.load());
    }

    private static void appendText() {
        VillageWaves v = new VillageWaves();
        due("first", 4, v.appendText('s' << 24 | 'e' << 16 | 'e' << 8 | 'd'));
        due("second", 8, v.appendText('7' << 24 | '7' << 16 | ';' << 8 | ' '));
        due("highest byte first", 0, v.load());
        due("seed 77", 77, v.count(9));
        for (int k = 1; k <= 175; k++) {
            due("length", 4 * k, v.appendText(0x20202020));
        }
        dueThrow("701st byte", STATE, () -> v.appendText(0));
        due("unchanged", 700, v.truncateText(700));
        v.truncateText(697);
        dueThrow("3 bytes too near", STATE, () -> v.appendText(0));
        v.truncateText(696);
        due("just fits", 700, v.appendText(0x20202020));
        due("700 blanks", 0, v.load());
        v.appendText(0x203BFF20);
        v.load();
        due("a byte of 255 comes behind ;", 1, v.errorPosition());
        v.appendText(0x20FF2020);
        v.load();
        due("negative low bytes do not spill", 1, v.errorPosition());
    }

    private static void truncateText() {
        VillageWaves v = new VillageWaves();
        v.appendText('s' << 24 | 'e' << 16 | 'e' << 8 | 'd');
        v.appendText('7' << 24 | ';' << 16 | 'x' << 8 | 'y');
        dueThrow("longer", ARGUMENT, () -> v.truncateText(9));
        dueThrow("negative", ARGUMENT, () -> v.truncateText(-1));
        dueThrow("lowest", ARGUMENT, () -> v.truncateText(LOW));
        dueThrow("highest", ARGUMENT, () -> v.truncateText(HIGH));
        due("same", 8, v.truncateText(8));
        due("shorter", 6, v.truncateText(6));
        dueThrow("not back", ARGUMENT, () -> v.truncateText(7));
        due("cut text is a setup", 0, v.load());
        due("its seed", 7, v.count(9));
        due("to nothing", 0, v.truncateText(0));
    }

    private static void load() {
        VillageWaves v = new VillageWaves();
        v.addHouse(1, 1, 1, 1, 1);
        v.tell(0, 1);
        v.set(4, 3);
        v.run(60);
        v.save(1);
        write(v, " day 030 ;\nset 0 7;set1 0;house 1 2 3 40 5 quiet 29 0;house 99 99 150 999 9 ; seed 1000002;"
                + "news 1 99;news 0 0;house 0 0 0 0 1;set 4 0 ;set 3 99; set 2 200\n;\n");
        due("houses", 3, v.load());
        int[] counts = {7, 0, 200, 99, 0, 30, 3, 2, 0, 1000002, 0, 1, 0, 2};
        for (int what = 0; what < counts.length; what++) {
            due("count " + what, counts[what], v.count(what));
        }
        int[] first = {1, 2, 3, 40, 5, 29, 0, 1, 0, 0, 2, 0, 0, 1, 0b100};
        int[] second = {99, 99, 150, 999, 9, NONE, NONE, 0, 0, 0, 1, 0, 0, 1, 0b101};
        for (int what = 0; what < first.length; what++) {
            due("house 0, " + what, first[what], v.house(0, what));
            due("house 1, " + what, second[what], v.house(1, what));
        }
        int[] news = {1, 0, 99, NONE, NONE, NONE, 2, 0, 0, 0};
        for (int what = 0; what < news.length; what++) {
            due("news 0, " + what, news[what], v.news(0, what));
        }
        due("time of its entry", 0, v.entry(1, 0, 2));
        due("hops of its entry", 0, v.entry(1, 0, 3));
        due("the buffer is empty", 4, v.appendText(0x20202020));
        write(v, "day 24;house 1 1 1 1 1;seed x");
        due("an error", NONE, v.load());
        due("the buffer is empty behind an error", 4, v.appendText(0x20202020));
        due("houses stay", 3, v.count(6));
        due("DAY stays", 30, v.count(5));
        due("X stays", 1000002, v.count(9));
        write(v, "");
        due("nothing told", 0, v.load());
        int[] plain = {5, 1, 40, 10, 11, 48, 0, 0, 0, 1, 0, 0, 0, 0};
        for (int what = 0; what < plain.length; what++) {
            due("as at first " + what, plain[what], v.count(what));
        }
        due("no minute is kept", NONE, v.spoken(0, 0));
        v.restore(1);
        due("saved states stay", 60, v.count(8));
        due("twelve houses and twenty news", 12, loaded(times(12, "house 0 0 0 0 1;") + times(20, "news 0 0;")).count(6));
        due("no blanks needed", 1, loaded("day48;house1 2 3 4 5quiet1 2;").count(6));
    }

    private static void error(String text, int code, int position) {
        VillageWaves v = line();
        write(v, text);
        int answer = v.load();
        due("load of " + text, code == 0 ? v.count(6) : NONE, answer);
        if (promise == 5) {
            due("code of " + text, code, v.errorCode());
        } else {
            due("position of " + text, position, v.errorPosition());
        }
    }

    private static void errors() {
        String house = "house 1 2 3 4 5";
        error("day 24;", 0, NONE);
        error("day 23;", 2, 4);
        error("day 240;", 0, NONE);
        error("day 241;", 2, 4);
        error("day;", 1, 3);
        error("day", 1, 3);
        error("day \n", 1, 5);
        error("day 30", 1, 6);
        error("day 30 30;", 1, 7);
        error("day 30;;", 1, 7);
        error("day 30;day 30;", 1, 7);
        error("seed 1;day 30;", 1, 7);
        error(";", 1, 0);
        error("7;", 1, 0);
        error("  quiet 1 2;", 1, 2);
        error("seed 1000002;", 0, NONE);
        error("seed 1000003;", 2, 5);
        error("seed 4294967297;", 2, 5);
        error("seed 18446744073709551617;", 2, 5);
        error("seed 000000000000000000000000000000000007;", 0, NONE);
        error("Seed 1;", 1, 0);
        error("seeds 1;", 1, 0);
        error("see 1;", 1, 0);
        error("seed 0;", 0, NONE);
        error("deed 0;", 1, 0);
        error("dayz 30;", 1, 0);
        error("seed 1;zday", 1, 7);
        error("seed -1;", 1, 5);
        error("seed\t1;", 1, 4);
        error("seed 1;\u00e9", 1, 7);
        error("seed 1;`", 1, 7);
        error("seed 1{;", 1, 6);
        error("seed 1:", 1, 6);
        error("seed /1;", 1, 5);
        error("seed x;", 1, 5);
        error("seed 1 x;", 1, 7);
        error("set 5 0;", 2, 4);
        error("set 0 0;", 2, 6);
        error("set 0 51;", 2, 6);
        error("set 1 21;", 2, 6);
        error("set 2 201;", 2, 6);
        error("set 3 0;", 2, 6);
        error("set 3 100;", 2, 6);
        error("set 4 12;", 2, 6);
        error("set 0 1;set 0 50;set 1 0;set 1 20;set 2 0;set 2 200;set 3 1;set 3 99;set 4 0;set 4 11;", 0, NONE);
        error("set 0;", 1, 5);
        error(house + ";", 0, NONE);
        error(house, 1, 15);
        error(house + "  ", 1, 17);
        error("house 100 2 3 4 5;", 2, 6);
        error("house 1 100 3 4 5;", 2, 8);
        error("house 1 2 151 4 5;", 2, 10);
        error("house 1 2 3 1000 5;", 2, 12);
        error("house 1 2 3 4 0;", 2, 14);
        error("house 1 2 3 4 10;", 2, 14);
        error("house 1 2 3 4;", 1, 13);
        error("house 100 x;", 2, 6);
        error(house + " 6;", 1, 16);
        error(house + " quite 1 2;", 1, 16);
        error(house + " quiet;", 1, 21);
        error(house + " quiet 0 47;", 0, NONE);
        error(house + " quiet 48 1;", 2, 22);
        error(house + " quiet 1 48;", 2, 24);
        error(house + " quiet 1 2 3;", 1, 26);
        error("day 24;" + house + " quiet 23 24;", 2, 32);
        error("day 240;" + house + " quiet 239 240;", 2, 34);
        error("news 0 5;", 2, 5);
        error("news 0 5;" + house + ";", 2, 5);
        error(house + ";news 1 5;", 2, 21);
        error(house + ";news 0 100;", 2, 23);
        error(house + ";news 0;", 1, 22);
        error(times(12, "house 0 0 0 0 1;") + "house", 3, 192);
        error(times(12, "house 0 0 0 0 1;") + "hous", 1, 192);
        error(times(11, "house 0 0 0 0 1;") + "house 0 0 0 0 house", 1, 190);
        error("house 0 0 0 0 1;" + times(20, "news 0 0;") + "\nnews", 3, 197);
        error("house 0 0 0 0 1;" + times(20, "news 0 0;") + "news 5 x", 3, 196);
    }

    private static void errorCode() {
        errors();
        VillageWaves v = new VillageWaves();
        write(v, "x");
        v.load();
        due("first", 1, v.errorCode());
        due("the latest one", 0, v.load());
        due("none", 0, v.errorCode());
    }

    private static void errorPosition() {
        errors();
        VillageWaves v = new VillageWaves();
        write(v, "x");
        v.load();
        due("first", 0, v.errorPosition());
        v.load();
        due("none", NONE, v.errorPosition());
    }

    // ---- promises 7 to 11

    private static void addHouse() {
        VillageWaves v = new VillageWaves();
        int[] least = {0, 0, 0, 0, 1};
        int[] most = {99, 99, 150, 999, 9};
        for (int which = 0; which < 5; which++) {
            for (int value : new int[] {least[which] - 1, most[which] + 1, LOW, HIGH}) {
                int[] p = least.clone();
                p[which] = value;
                dueThrow("parameter " + which + " " + value, ARGUMENT, () -> v.addHouse(p[0], p[1], p[2], p[3], p[4]));
            }
        }
        due("no house was added", 0, v.count(6));
        due("least", 0, v.addHouse(0, 0, 0, 0, 1));
        due("most", 1, v.addHouse(99, 99, 150, 999, 9));
        for (int house = 2; house < 12; house++) {
            due("number", house, v.addHouse(house, 2 * house, 20, 5, 3));
        }
        int[] facts = {11, 22, 20, 5, 3, NONE, NONE, 0, 0, 0, 0, 0, 0, 0};
        for (int what = 0; what < facts.length; what++) {
            due("house 11, " + what, facts[what], v.house(11, what));
        }
        dueThrow("a 13th", STATE, () -> v.addHouse(0, 0, 0, 0, 1));
        dueThrow("a 13th out of range", ARGUMENT, () -> v.addHouse(0, 0, 0, 0, 10));
        due("houses", 12, v.count(6));
        VillageWaves late = told();
        due("behind news", 3, late.addHouse(0, 1, 0, 100, 1));
        due("it knows none", 0, late.house(3, 10));
        due("its source", NONE, late.source(3, 0));
    }

    private static void setQuiet() {
        VillageWaves v = line();
        v.setQuiet(1, 46, 3);
        due("A", 46, v.house(1, 5));
        due("B", 3, v.house(1, 6));
        due("quiet at 0", 1, v.house(1, 7));
        v.run(3);
        due("quiet at 3", 1, v.house(1, 7));
        v.run(1);
        due("not at 4", 0, v.house(1, 7));
        v.run(41);
        due("not at 45", 0, v.house(1, 7));
        v.run(1);
        due("quiet at 46", 1, v.house(1, 7));
        v.run(2);
        due("quiet at 48", 1, v.house(1, 7));
        v.setQuiet(1, 1, 1);
        due("not at 0", 0, v.house(1, 7));
        v.run(1);
        due("quiet at 1", 1, v.house(1, 7));
        v.run(1);
        due("not at 2", 0, v.house(1, 7));
        v.setQuiet(1, 2, 1);
        due("always", 1, v.house(1, 7));
        dueThrow("just one", ARGUMENT, () -> v.setQuiet(1, NONE, 5));
        dueThrow("just the other", ARGUMENT, () -> v.setQuiet(1, 5, NONE));
        dueThrow("from 48", ARGUMENT, () -> v.setQuiet(1, 48, 0));
        dueThrow("to 48", ARGUMENT, () -> v.setQuiet(1, 0, 48));
        dueThrow("from -2", ARGUMENT, () -> v.setQuiet(1, -2, 0));
        dueThrow("to -2", ARGUMENT, () -> v.setQuiet(1, 0, -2));
        dueThrow("extremes", ARGUMENT, () -> v.setQuiet(1, LOW, HIGH));
        dueThrow("no house", INDEX, () -> v.setQuiet(3, 48, 0));
        dueThrow("house -1", INDEX, () -> v.setQuiet(-1, 0, 0));
        due("unchanged", 2, v.house(1, 5));
        v.setQuiet(1, NONE, NONE);
        due("no A", NONE, v.house(1, 5));
        due("never", 0, v.house(1, 7));
        VillageWaves longer = loaded("day 100;house 0 0 0 0 1;");
        longer.setQuiet(0, 99, 98);
        dueThrow("100 of 100", ARGUMENT, () -> longer.setQuiet(0, 100, 98));
    }

    private static void charge() {
        VillageWaves v = line();
        due("more", 150, v.charge(0, 50));
        due("less", 149, v.charge(0, -1));
        due("nothing", 149, v.charge(0, 0));
        due("empty", 0, v.charge(0, -999));
        due("full", 999, v.charge(0, 999));
        due("no more than full", 999, v.charge(0, 1));
        due("kept", 999, v.house(0, 3));
        due("others", 100, v.house(1, 3));
        dueThrow("1000", ARGUMENT, () -> v.charge(0, 1000));
        dueThrow("-1000", ARGUMENT, () -> v.charge(0, -1000));
        dueThrow("highest", ARGUMENT, () -> v.charge(0, HIGH));
        dueThrow("no house", INDEX, () -> v.charge(3, 1000));
        dueThrow("lowest house", INDEX, () -> v.charge(LOW, 1));
    }

    private static void set() {
        VillageWaves v = new VillageWaves();
        int[] least = {1, 0, 0, 1, 0};
        int[] most = {50, 20, 200, 99, 11};
        int[] first = {5, 1, 40, 10, 11};
        for (int what = 0; what < 5; what++) {
            int number = what;
            due("previous " + what, first[what], v.set(what, least[what]));
            due("least " + what, least[what], v.set(what, most[what]));
            due("most " + what, most[what], v.count(what));
            dueThrow("below " + what, ARGUMENT, () -> v.set(number, least[number] - 1));
            dueThrow("above " + what, ARGUMENT, () -> v.set(number, most[number] + 1));
            due("unchanged " + what, most[what], v.count(what));
        }
        dueThrow("what 5", ARGUMENT, () -> v.set(5, 48));
        dueThrow("what 5, value 0", ARGUMENT, () -> v.set(5, 0));
        dueThrow("what -1, value 0", ARGUMENT, () -> v.set(-1, 0));
        dueThrow("what -1", ARGUMENT, () -> v.set(-1, 1));
        dueThrow("extremes", ARGUMENT, () -> v.set(HIGH, LOW));
    }

    private static void seed() {
        VillageWaves v = new VillageWaves();
        v.seed(0);
        due("least", 0, v.count(9));
        v.seed(1000002);
        due("most", 1000002, v.count(9));
        dueThrow("above", ARGUMENT, () -> v.seed(1000003));
        dueThrow("below", ARGUMENT, () -> v.seed(-1));
        dueThrow("lowest", ARGUMENT, () -> v.seed(LOW));
        due("unchanged", 1000002, v.count(9));
    }

    // ---- promises 12 to 18

    private static void count() {
        VillageWaves v = told();
        v.tell(0, 1);
        v.tell(1, 1);
        v.correct(2, 0, 9);
        v.setQuiet(0, 10, 10);
        v.setQuiet(2, 5, 12);
        int[] counts = {5, 1, 40, 10, 11, 48, 3, 3, 10, v.count(9), 3, 0b101, 1, 3};
        for (int what = 0; what < counts.length; what++) {
            due("count " + what, counts[what], v.count(what));
        }
        v.correct(0, 1, 3);
        due("two corrected, as a number", 2, v.count(12));
        due("its entry is gone", 2, v.count(13));
        dueThrow("14", ARGUMENT, () -> v.count(14));
        dueThrow("-1", ARGUMENT, () -> v.count(-1));
        dueThrow("lowest", ARGUMENT, () -> v.count(LOW));
    }

    private static void house() {
        VillageWaves v = told();
        int[] first = {0, 0, 10, 94, 1, NONE, NONE, 0, 1, 1, 1, 0, 0, 0, 0b10};
        int[] second = {10, 0, 10, 94, 2, NONE, NONE, 0, 1, 1, 1, 0, 0, 0, 0b101};
        int[] third = {20, 0, 5, 94, 1, NONE, NONE, 0, 1, 1, 1, 0, 0, 0, 0};
        for (int what = 0; what < first.length; what++) {
            due("house 0, " + what, first[what], v.house(0, what));
            due("house 1, " + what, second[what], v.house(1, what));
            due("house 2, " + what, third[what], v.house(2, what));
        }
        v.tell(1, 3);
        v.correct(0, 0, 2);
        due("0 knows the correction", 1, v.house(0, 11));
        due("0 is not wrong", 0, v.house(0, 12));
        due("1 is wrong", 1, v.house(1, 12));
        due("1 knows both", 0b11, v.house(1, 10));
        due("0 owes", 1, v.house(0, 13));
        v.run(38);
        due("ever", 3, v.house(1, 9));
        due("the day of the latest minute", 3, v.house(1, 8));
        v.run(1);
        due("a new day", 0, v.house(1, 8));
        due("ever, still", 3, v.house(1, 9));
        dueThrow("what 15", ARGUMENT, () -> v.house(0, 15));
        dueThrow("what -1", ARGUMENT, () -> v.house(0, -1));
        dueThrow("no house", INDEX, () -> v.house(3, 15));
        dueThrow("house -1", INDEX, () -> v.house(-1, 0));
        VillageWaves edge = loaded("house 0 0 5 0 1;house 3 4 0 0 1;house 3 4 0 0 1;house 4 4 150 0 1;");
        due("just in range", 0b110, edge.house(0, 14));
        due("the same place", 0b100, edge.house(1, 14));
        due("all others", 0b111, edge.house(3, 14));
    }

    private static void checkEntry(VillageWaves v, int house, int index, int... facts) {
        for (int what = 0; what < facts.length; what++) {
            due("entry " + house + " " + index + " " + what, facts[what], v.entry(house, index, what));
        }
    }

    private static void entry() {
        VillageWaves v = told();
        v.tell(0, 1);
        v.tell(0, 2);
        v.charge(0, -999);
        v.run(1);
        v.tell(0, 3);
        v.correct(0, 0, 9);
        checkEntry(v, 0, 0, 1, 0, 11, NONE, 1);
        checkEntry(v, 0, 1, 0, 1, 10, 0, 1);
        checkEntry(v, 0, 2, 0, 2, 10, 0, 1);
        checkEntry(v, 0, 3, 0, 3, 11, 0, 1);
        v.set(1, 0);
        v.charge(0, 5);
        v.run(1);
        checkEntry(v, 1, 0, 1, 0, 11, NONE, 1);
        dueThrow("no entry 4", INDEX, () -> v.entry(0, 4, 0));
        dueThrow("no entry, wrong what", INDEX, () -> v.entry(0, 4, 9));
        dueThrow("entry -1", INDEX, () -> v.entry(0, -1, 0));
        dueThrow("entry lowest", INDEX, () -> v.entry(0, LOW, 0));
        dueThrow("no house", INDEX, () -> v.entry(3, 0, 0));
        dueThrow("what 5", ARGUMENT, () -> v.entry(0, 0, 5));
        dueThrow("what -1", ARGUMENT, () -> v.entry(0, 0, -1));
        VillageWaves far = told();
        far.correct(2, 0, 9);
        checkEntry(far, 2, 0, 1, 0, 10, NONE, 0);
        sentCorrectionGoesBack();
        VillageWaves again = line();
        again.tell(1, 0);
        again.run(1);
        checkEntry(again, 0, 0, 0, 0, 0, 1, 1);
    }

    private static void sentCorrectionGoesBack() {
        VillageWaves v = line();
        v.tell(0, 1);
        v.tell(0, 2);
        v.run(40);
        v.correct(0, 1, 9);
        v.correct(0, 0, 9);
        v.charge(1, -999);
        checkEntry(v, 0, 0, 1, 0, 40, NONE, 1);
        v.run(1);
        checkEntry(v, 0, 0, 1, 1, 40, NONE, 1);
        checkEntry(v, 0, 1, 1, 0, 41, NONE, 1);
        v.run(1);
        checkEntry(v, 0, 0, 1, 0, 41, NONE, 1);
        checkEntry(v, 0, 1, 1, 1, 42, NONE, 1);
        due("it speaks though nobody hears", 0, v.spoken(0, 4));
    }

    private static void news() {
        VillageWaves v = told();
        int[] before = {0, 0, 7, NONE, NONE, NONE, 0b111, 0, 0, 2};
        for (int what = 0; what < before.length; what++) {
            due("news " + what, before[what], v.news(0, what));
        }
        v.correct(1, 0, 0);
        int[] behind = {0, 0, 7, 0, 1, 10, 0b111, 0b10, 0b101, 2};
        for (int what = 0; what < behind.length; what++) {
            due("corrected news " + what, behind[what], v.news(0, what));
        }
        due("another one", 1, v.tell(2, 99));
        due("its time", 10, v.news(1, 1));
        due("nobody got it", 0, v.news(1, 9));
        dueThrow("what 10", ARGUMENT, () -> v.news(0, 10));
        dueThrow("what -1", ARGUMENT, () -> v.news(0, -1));
        dueThrow("no news", INDEX, () -> v.news(2, 10));
        dueThrow("news -1", INDEX, () -> v.news(-1, 0));
        VillageWaves short1 = line();
        short1.set(4, 0);
        short1.tell(0, 7);
        short1.run(9);
        due("known, not relayed", 0b11, short1.news(0, 6));
        due("hops beyond HOPS count", 1, short1.news(0, 9));
        due("no entry", 0, short1.count(13));
    }

    private static void source() {
        VillageWaves v = told();
        due("author", NONE, v.source(0, 0));
        due("neighbour", 0, v.source(1, 0));
        due("behind it", 1, v.source(2, 0));
        v.tell(2, 5);
        due("not known", NONE, v.source(0, 1));
        dueThrow("no house", INDEX, () -> v.source(3, 0));
        dueThrow("no news", INDEX, () -> v.source(0, 2));
        dueThrow("negative", INDEX, () -> v.source(-1, -1));
        dueThrow("highest", INDEX, () -> v.source(HIGH, HIGH));
    }

    private static void owes() {
        VillageWaves v = tree();
        due("before it is corrected", 0, v.owes(0, 0));
        v.correct(0, 0, 9);
        due("0", 0b110, v.owes(0, 0));
        due("1 does not know it", 0, v.owes(1, 0));
        v.run(1);
        due("settled", 0, v.owes(0, 0));
        due("1", 0b1000, v.owes(1, 0));
        due("2", 0, v.owes(2, 0));
        VillageWaves middle = told();
        middle.correct(1, 0, 9);
        due("both ways", 0b101, middle.owes(1, 0));
        dueThrow("no house", INDEX, () -> v.owes(4, 0));
        dueThrow("no news", INDEX, () -> v.owes(0, 1));
        dueThrow("negative", INDEX, () -> v.owes(-1, 0));
    }

    private static void checkSpoken(VillageWaves v, int index, int... facts) {
        for (int what = 0; what < facts.length; what++) {
            due("spoken " + index + " " + what, facts[what], v.spoken(index, what));
        }
    }

    private static void spoken() {
        VillageWaves v = told();
        v.correct(0, 0, 9);
        v.run(1);
        checkSpoken(v, 0, 10, 0, 1, 0, 0b10, 0b10);
        checkSpoken(v, 1, 2, 2, 0, 0, 0, 0);
        checkSpoken(v, 2, 1, 1, 0, 0, 0b101, 0b100);
        checkSpoken(v, 3, 0, 0, 0, 0, 0b10, 0b10);
        checkSpoken(v, 4, NONE, NONE, NONE, NONE, NONE, NONE);
        due("far", NONE, v.spoken(HIGH, 5));
        dueThrow("index -1", ARGUMENT, () -> v.spoken(-1, 0));
        dueThrow("index lowest", ARGUMENT, () -> v.spoken(LOW, 0));
        dueThrow("what 6", ARGUMENT, () -> v.spoken(0, 6));
        dueThrow("what -1", ARGUMENT, () -> v.spoken(40, -1));
        VillageWaves many = loaded("set 3 99;set 0 1;house 0 0 0 900 1;" + times(20, "news 0 0;"));
        many.run(20);
        due("20 kept", 0, many.spoken(19, 0));
        VillageWaves pair = loaded("set 3 99;set 0 1;house 0 0 5 900 1;house 1 0 5 900 1;" + times(20, "news 0 0;"));
        due("40 minutes", 40, pair.run(45));
        due("the latest", 39, pair.spoken(0, 0));
        due("the 30th", 10, pair.spoken(29, 0));
        due("the 31st is not kept", NONE, pair.spoken(30, 0));
        due("nor later ones", NONE, pair.spoken(39, 0));
        due("all are counted", 40, pair.count(10));
    }

    // ---- promises 19 to 24

    private static void tell() {
        VillageWaves v = line();
        v.run(3);
        for (int news = 0; news < 20; news++) {
            due("number", news, v.tell(news % 3, news == 0 ? 0 : 80 + news));
        }
        due("a 21st", -2, v.tell(0, 0));
        due("no more", 20, v.count(7));
        due("body", 99, v.news(19, 2));
        due("author", 1, v.news(19, 0));
        due("time", 3, v.news(19, 1));
        due("known to it", 0b10, v.news(19, 6));
        due("entries", 7, v.house(0, 13));
        checkEntry(v, 1, 0, 0, 1, 3, 0, 1);
        dueThrow("body 100", ARGUMENT, () -> v.tell(0, 100));
        dueThrow("body -1", ARGUMENT, () -> v.tell(0, -1));
        dueThrow("no house", INDEX, () -> v.tell(3, 100));
        dueThrow("house -1", INDEX, () -> v.tell(-1, 0));
    }

    private static void correct() {
        VillageWaves v = told();
        v.tell(1, 5);
        due("not known", -3, v.correct(0, 1, 0));
        due("nothing changed", 0, v.count(12));
        due("two", 2, v.correct(1, 0, 99));
        due("again", -4, v.correct(0, 0, 1));
        due("again by the same", -4, v.correct(1, 0, 1));
        due("body", 99, v.news(0, 3));
        due("alone", 0, v.correct(1, 1, 0));
        due("not known comes first", -3, v.correct(0, 1, 0));
        due("its news leaves the queue", 1, v.house(1, 13));
        due("the correction stays", 1, v.entry(1, 0, 0));
        dueThrow("body 100", ARGUMENT, () -> v.correct(0, 0, 100));
        dueThrow("body -1", ARGUMENT, () -> v.correct(0, 0, -1));
        dueThrow("no house", INDEX, () -> v.correct(3, 0, 100));
        dueThrow("no news", INDEX, () -> v.correct(0, 2, 100));
        dueThrow("negative", INDEX, () -> v.correct(0, -1, 0));
    }

    private static void run() {
        VillageWaves v = line();
        dueThrow("0", ARGUMENT, () -> v.run(0));
        dueThrow("501", ARGUMENT, () -> v.run(501));
        dueThrow("lowest", ARGUMENT, () -> v.run(LOW));
        due("the time stays", 0, v.count(8));
        due("nobody speaks", 0, v.run(500));
        due("the time", 500, v.count(8));
        due("nothing drawn", 1, v.count(9));
        v.tell(0, 7);
        due("three speak", 3, v.run(500));
        due("in all", 3, v.count(10));
        days();
        hearing();
        quotaAndHops();
        correctionsGoBack();
        correctionAheadOfItsNews();
        draws();
    }

    private static void days() {
        VillageWaves v = loaded("day 24;set 2 30;house 0 0 0 0 1;house 50 50 0 980 1;");
        v.run(24);
        due("not at the time 0, nor before the minute", 0, v.house(0, 3));
        v.run(1);
        due("charged", 30, v.house(0, 3));
        due("at most 999", 999, v.house(1, 3));
        v.run(23);
        due("once a day", 30, v.house(0, 3));
        v.run(1);
        due("each day", 60, v.house(0, 3));
    }

    private static void hearing() {
        VillageWaves v = loaded("set 1 3;house 0 0 9 100 1;house 1 0 0 2 1;house 2 0 0 3 1;house 3 0 0 99 1 quiet 0 0;house 4 0 0 99 1 quiet 1 47;house 10 0 0 99 1;");
        v.tell(0, 1);
        due("one speaks", 1, v.run(1));
        due("who heard it", 0b10100, v.spoken(0, 4));
        due("a weak one does not", 2, v.house(1, 3));
        due("one that can just", 0, v.house(2, 3));
        due("a quiet one does not", 99, v.house(3, 3));
        due("one that is not quiet yet", 96, v.house(4, 3));
        due("one out of range", 99, v.house(5, 3));
        due("the speaker", 95, v.house(0, 3));
        due("who wishes: 2 is empty, 4 is quiet now", 0, v.wishes());
        VillageWaves free = loaded("set 1 0;house 0 0 9 5 1;house 1 0 0 0 1;");
        free.tell(0, 1);
        free.run(1);
        due("LISTEN 0", 0b10, free.spoken(0, 5));
        due("empty now", 0, free.house(0, 3));
        VillageWaves weak = loaded("house 0 0 9 4 1;");
        weak.tell(0, 1);
        due("below SPEAK", 0, weak.run(1));
        weak.charge(0, 1);
        due("just SPEAK", 1, weak.run(1));
    }

    private static void quotaAndHops() {
        VillageWaves v = loaded("set 3 2;house 0 0 0 999 1;news 0 1;news 0 2;news 0 3;");
        due("QUOTA", 2, v.run(48));
        due("the next day", 1, v.run(1));
        due("in order", 2, v.spoken(0, 3));
        String row = "house 0 0 10 99 1;house 10 0 10 99 1;house 20 0 10 99 1;house 30 0 10 99 1;";
        VillageWaves hop = loaded("set 4 1;" + row + "news 0 1;");
        due("author and one more", 2, hop.run(40));
        due("the third knows it", 0b111, hop.news(0, 6));
        due("with hops", 2, hop.news(0, 9));
        due("without an entry", 0, hop.house(2, 13));
    }

    private static void correctionsGoBack() {
        VillageWaves v = tree();
        v.correct(0, 0, 9);
        v.charge(2, -999);
        due("0 sends", 1, v.run(1));
        checkSpoken(v, 0, 10, 0, 1, 0, 0b10, 0b10);
        due("0 still owes 2", 0b100, v.owes(0, 0));
        checkEntry(v, 0, 0, 1, 0, 11, NONE, 1);
        checkEntry(v, 1, 0, 1, 0, 10, NONE, 1);
        v.charge(2, 50);
        v.charge(0, -999);
        due("1 sends", 1, v.run(1));
        checkSpoken(v, 0, 11, 1, 1, 0, 0b1100, 0b1100);
        due("the entry of 0 is not owed any more", 0, v.house(0, 13));
        due("all settled", 0, v.count(13));
        due("all know it", 0b1111, v.news(0, 7));
        VillageWaves empty = told();
        empty.correct(2, 0, 9);
        due("out of range: no wish", 0, empty.run(100));
        due("the entry stays", 1, empty.count(13));
    }

    private static void correctionAheadOfItsNews() {
        VillageWaves v = loaded("set 1 0;house 0 0 10 99 1;house 10 0 10 99 1;house 5 0 10 99 1 quiet 0 0;news 0 1;");
        v.run(1);
        v.charge(1, -999);
        due("0 owes 1", 1, v.correct(0, 0, 9));
        v.run(1);
        checkSpoken(v, 0, 1, 0, 1, 0, 0b110, 0b110);
        due("2 does not know the news", 0, v.house(2, 10));
        due("2 knows the correction", 1, v.house(2, 11));
        due("1 knows both", 1, v.house(1, 10));
        due("nothing to send", 0, v.count(13));
        VillageWaves late = loaded("house 0 0 10 99 1;house 10 0 10 99 1;house 5 0 20 99 1 quiet 0 0;house 20 0 15 99 1 quiet 0 1;news 0 1;");
        late.run(1);
        late.charge(1, -99);
        late.correct(0, 0, 9);
        late.charge(1, 2);
        late.run(1);
        due("1 and 2 learn it", 0b110, late.spoken(0, 5));
        late.run(5);
        due("2 has not got the news", 0, late.house(2, 10));
    }

    private static void draws() {
        for (int seed = 0; seed < 60; seed++) {
            VillageWaves v = loaded("house 0 0 0 99 1;house 9 0 0 99 5;house 0 9 0 99 2;house 9 9 0 99 3;news 0 0;news 2 0;news 3 0;");
            int x = 17000 * seed % 1000003;
            v.seed(x);
            int after = (1103 * x + 12345) % 1000003;
            int drawn = after % 6;
            int house = drawn < 1 ? 0 : drawn < 3 ? 2 : 3;
            due("next", house, v.next());
            v.run(1);
            due("X", after, v.count(9));
            due("speaker", house, v.spoken(0, 1));
        }
        VillageWaves most = loaded("seed 1000002;house 0 0 0 99 9;news 0 0;");
        most.run(1);
        due("X of the greatest", 11242, most.count(9));
    }

    private static void wishes() {
        VillageWaves v = loaded("house 0 0 0 99 1;house 1 1 0 4 1;house 2 2 0 99 1 quiet 0 47;house 3 3 0 99 1;house 4 4 0 5 1;"
                + "news 0 1;news 1 1;news 2 1;news 4 1;");
        due("0 and 4", 0b10001, v.wishes());
        due("nobody drew", 1, v.count(9));
        v.run(48);
        due("spoke", 2, v.count(10));
        due("behind step 1", 0b10, v.wishes());
        due("nothing changed", 4, v.house(1, 3));
        due("none", 0, new VillageWaves().wishes());
        VillageWaves once = loaded("set 3 1;house 0 0 0 99 1;news 0 1;news 0 2;");
        once.run(1);
        due("QUOTA", 0, once.wishes());
        once.run(47);
        due("a new day", 1, once.wishes());
    }

    private static void next() {
        VillageWaves v = told();
        due("none", NONE, v.next());
        v.tell(2, 1);
        due("one", 2, v.next());
        due("X stays", v.count(9), v.count(9));
        v.tell(0, 1);
        v.tell(1, 1);
        for (int seed = 0; seed < 40; seed++) {
            v.seed(seed);
            int drawn = (1103 * seed + 12345) % 1000003 % 4;
            due("seed " + seed, drawn == 0 ? 0 : drawn < 3 ? 1 : 2, v.next());
            due("it was not drawn", seed, v.count(9));
        }
        VillageWaves dawn = loaded("house 0 0 0 0 1;news 0 1;");
        due("empty", NONE, dawn.next());
        dawn.run(48);
        due("behind step 1", 0, dawn.next());
    }

    private static void chance() {
        VillageWaves v = line();
        due("none wishes", 0.0, v.chance(0));
        v.tell(1, 1);
        due("alone", 1.0, v.chance(1));
        v.tell(2, 1);
        due("2 of 3", 2.0 / 3.0, v.chance(1));
        due("1 of 3", 1.0 / 3.0, v.chance(2));
        due("not in it", 0.0, v.chance(0));
        dueThrow("no house", INDEX, () -> v.chance(3));
        dueThrow("house -1", INDEX, () -> v.chance(-1));
        VillageWaves dawn = loaded("house 0 0 0 0 7;house 0 0 0 0 9;news 0 1;news 1 1;");
        dawn.run(47);
        due("empty", 0.0, dawn.chance(0));
        dawn.run(1);
        due("behind step 1", 7.0 / 16.0, dawn.chance(0));
    }

    // ---- promises 25 to 28

    private static void near() {
        VillageWaves v = loaded("house 50 50 0 0 1;house 60 50 0 0 1;house 50 40 0 0 1;house 50 50 150 0 1;house 57 57 0 0 1;");
        int[] order = {3, 4, 1, 2, NONE, NONE};
        for (int index = 0; index < order.length; index++) {
            due("near 0, " + index, order[index], v.near(0, index));
        }
        due("the same place, from there", 0, v.near(3, 0));
        due("far", NONE, v.near(0, HIGH));
        dueThrow("index -1", INDEX, () -> v.near(0, -1));
        dueThrow("lowest", INDEX, () -> v.near(0, LOW));
        dueThrow("no house", INDEX, () -> v.near(5, 0));
        due("alone", NONE, loaded("house 0 0 0 0 1;").near(0, 0));
    }

    private static void hops() {
        VillageWaves v = line();
        due("neighbour", 1, v.hops(0, 1));
        due("behind it", 2, v.hops(0, 2));
        due("not back", NONE, v.hops(2, 0));
        due("itself", 0, v.hops(2, 2));
        due("back from 1", 1, v.hops(1, 0));
        StringBuilder row = new StringBuilder();
        for (int house = 0; house < 12; house++) {
            row.append("house ").append(8 * house).append(" 0 8 0 1 quiet 0 47;");
        }
        VillageWaves long1 = loaded(row.toString());
        due("eleven, whatever hours", 11, long1.hops(0, 11));
        due("eleven back", 11, long1.hops(11, 0));
        dueThrow("no from", INDEX, () -> v.hops(3, 0));
        dueThrow("no to", INDEX, () -> v.hops(0, 3));
        dueThrow("negative", INDEX, () -> v.hops(-1, -1));
    }

    private static void overlap() {
        VillageWaves v = line();
        due("never quiet", 48, v.overlap(0, 1));
        v.setQuiet(1, 46, 3);
        due("one at night", 42, v.overlap(0, 1));
        due("itself", 42, v.overlap(1, 1));
        v.setQuiet(0, 2, 10);
        due("both", 35, v.overlap(0, 1));
        due("likewise", 35, v.overlap(1, 0));
        v.setQuiet(0, 0, 47);
        due("none", 0, v.overlap(0, 2));
        due("whatever the time", 240, loaded("day 240;house 0 0 0 0 1;").overlap(0, 0));
        dueThrow("no one", INDEX, () -> v.overlap(3, 0));
        dueThrow("no other", INDEX, () -> v.overlap(0, -1));
    }

    private static void meanBattery() {
        due("no houses", -1f, new VillageWaves().meanBattery());
        VillageWaves v = line();
        due("all alike", 100f, v.meanBattery());
        v.charge(0, 1);
        due("a third", 301f / 3f, v.meanBattery());
        v.run(49);
        due("charged", 421f / 3f, v.meanBattery());
    }

    // ---- promises 29 to 34

    private static void reached() {
        VillageWaves v = line();
        v.tell(0, 7);
        due("one minute", 2, v.reached(0, 1, 0));
        due("two minutes", 3, v.reached(0, 2, 0));
        due("500 minutes", 3, v.reached(0, 500, 0));
        due("not corrected", 0, v.reached(0, 5, 1));
        due("none is wrong", 0, v.reached(0, 5, 2));
        due("nothing passed", 0, v.count(8));
        due("nothing drawn", 1, v.count(9));
        v.run(10);
        v.correct(0, 0, 1);
        due("1 learns", 2, v.reached(0, 1, 1));
        due("2 is wrong", 1, v.reached(0, 1, 2));
        due("2 learns", 3, v.reached(0, 2, 1));
        due("nobody is wrong", 0, v.reached(0, 2, 2));
        due("now", 1, Integer.bitCount(v.news(0, 7)));
        dueThrow("0 minutes", ARGUMENT, () -> v.reached(0, 0, 0));
        dueThrow("501 minutes", ARGUMENT, () -> v.reached(0, 501, 0));
        dueThrow("what 3", ARGUMENT, () -> v.reached(0, 1, 3));
        dueThrow("what -1", ARGUMENT, () -> v.reached(0, 1, -1));
        dueThrow("no news", INDEX, () -> v.reached(1, 0, 3));
        dueThrow("news -1", INDEX, () -> v.reached(-1, 1, 0));
    }

    private static void correctedIn() {
        VillageWaves v = told();
        due("not corrected", NONE, v.correctedIn(0, 500));
        v.correct(0, 0, 1);
        due("in two", 2, v.correctedIn(0, 500));
        due("in two of two", 2, v.correctedIn(0, 2));
        due("not in one", NONE, v.correctedIn(0, 1));
        v.run(2);
        due("now", 0, v.correctedIn(0, 1));
        v.tell(1, 1);
        v.correct(1, 1, 2);
        due("alone", 0, v.correctedIn(1, 1));
        dueThrow("most 0", ARGUMENT, () -> v.correctedIn(0, 0));
        dueThrow("most 501", ARGUMENT, () -> v.correctedIn(0, 501));
        dueThrow("no news", INDEX, () -> v.correctedIn(2, 0));
        dueThrow("news -1", INDEX, () -> v.correctedIn(-1, 1));
        VillageWaves far = told();
        far.correct(2, 0, 1);
        due("never", NONE, far.correctedIn(0, 500));
    }

    private static void ahead() {
        VillageWaves v = line();
        v.tell(0, 7);
        due("one speaks", 1, v.ahead(1, 0));
        due("one gets it", 1, v.ahead(1, 1));
        due("nobody learns", 0, v.ahead(1, 2));
        due("one speaks, one listens", 6, v.ahead(1, 3));
        due("three speak", 3, v.ahead(500, 0));
        due("two get it", 2, v.ahead(500, 1));
        due("three speak, three listen; charging is no loss", 18, v.ahead(500, 3));
        v.run(10);
        v.tell(1, 1);
        v.correct(0, 0, 1);
        due("two learn", 2, v.ahead(40, 2));
        due("two get news 1", 2, v.ahead(40, 1));
        due("only from now on", 5, v.ahead(40, 0));
        due("nothing changed", 10, v.count(8));
        dueThrow("0 minutes", ARGUMENT, () -> v.ahead(0, 0));
        dueThrow("501 minutes", ARGUMENT, () -> v.ahead(501, 0));
        dueThrow("what 4", ARGUMENT, () -> v.ahead(1, 4));
        dueThrow("what -1", ARGUMENT, () -> v.ahead(1, -1));
    }

    private static void bestAuthor() {
        VillageWaves v = line();
        due("the lowest of 0 and 1", 0, v.bestAuthor(30));
        due("1 reaches two at once", 1, v.bestAuthor(1));
        due("200", 0, v.bestAuthor(200));
        due("nothing told", 0, v.count(7));
        v.set(4, 0);
        due("without relays", 1, v.bestAuthor(30));
        v.charge(1, -999);
        due("1 is empty", 0, v.bestAuthor(30));
        v.charge(0, -999);
        due("one each", 0, v.bestAuthor(30));
        due("no houses", NONE, new VillageWaves().bestAuthor(1));
        for (int news = 0; news < 19; news++) {
            v.tell(2, 0);
        }
        due("a 20th can be told", 0, v.bestAuthor(1));
        v.tell(2, 0);
        due("20 news", NONE, v.bestAuthor(1));
        dueThrow("0 minutes", ARGUMENT, () -> v.bestAuthor(0));
        dueThrow("201 minutes", ARGUMENT, () -> v.bestAuthor(201));
        dueThrow("no houses, wrong minutes", ARGUMENT, () -> new VillageWaves().bestAuthor(HIGH));
    }

    private static void save() {
        VillageWaves v = told();
        v.save(0);
        v.run(1);
        v.save(1);
        v.run(1);
        v.save(1);
        v.restore(0);
        due("slot 0", 10, v.count(8));
        v.restore(1);
        due("slot 1 was replaced", 12, v.count(8));
        dueThrow("slot 2", ARGUMENT, () -> v.save(2));
        dueThrow("slot -1", ARGUMENT, () -> v.save(-1));
        VillageWaves other = line();
        dueThrow("of this object alone", STATE, () -> other.restore(0));
        other.save(1);
        dueThrow("the other slot", STATE, () -> other.restore(0));
    }

    private static void restore() {
        VillageWaves v = loaded("day 30;set 4 7;house 0 0 10 100 1;house 10 0 10 100 2 quiet 29 28;news 0 5;");
        v.run(1);
        v.correct(0, 0, 3);
        v.tell(1, 8);
        v.save(0);
        int[] kept = new int[14];
        for (int what = 0; what < 14; what++) {
            kept[what] = v.count(what);
        }
        write(v, "x");
        v.load();
        v.appendText(0x73656564);
        v.restore(0);
        due("the latest error stays", 1, v.errorCode());
        due("its position", 0, v.errorPosition());
        due("the text stays", 8, v.appendText(0x20373B20));
        v.load();
        due("a new village", 7, v.count(9));
        v.addHouse(1, 1, 1, 1, 1);
        v.tell(0, 1);
        v.run(33);
        for (int again = 0; again < 2; again++) {
            v.restore(0);
            for (int what = 0; what < 14; what++) {
                due("count " + what, kept[what], v.count(what));
            }
            checkSpoken(v, 0, 0, 0, 0, 0, 0, 0);
            due("quiet hours", 28, v.house(1, 6));
            due("minutes of the day", 1, v.house(0, 8));
            due("corrected", 3, v.news(0, 3));
            checkEntry(v, 1, 0, 0, 1, 1, 0, 1);
            due("the error of the latest load", 0, v.errorCode());
            v.run(7);
            v.set(0, 50);
            v.charge(0, -999);
        }
        dueThrow("slot 1", STATE, () -> v.restore(1));
        dueThrow("slot 2", ARGUMENT, () -> v.restore(2));
        dueThrow("slot -1", ARGUMENT, () -> v.restore(-1));
        dueThrow("slot lowest", ARGUMENT, () -> v.restore(LOW));
    }
}
