import java.nio.charset.StandardCharsets;
import java.util.ArrayList;
import java.util.List;
import java.util.function.Consumer;
import java.util.function.Supplier;

/** What the tests of the document's sentences share: villages to ask, and what is due of them. */
abstract class Asked {
    static final int NONE = -1;
    static final int LOW = Integer.MIN_VALUE;
    static final int HIGH = Integer.MAX_VALUE;
    static final Class<?> INDEX = IndexOutOfBoundsException.class;
    static final Class<?> ARGUMENT = IllegalArgumentException.class;
    static final Class<?> STATE = IllegalStateException.class;

    private static List<String> faults = new ArrayList<>();
    private static int checks = 0;

    // ---- what is due

    static List<String> takeFaults() {
        List<String> taken = faults;
        faults = new ArrayList<>();
        return taken;
    }

    static int checks() {
        return checks;
    }

    static void due(String what, Object want, Object got) {
        checks++;
        if (!want.equals(got)) {
            faults.add(what + " answered " + got + ", due is " + want);
        }
    }

    static void refused(String what, Class<?> want, Runnable call) {
        Object got = "nothing";
        try {
            call.run();
        } catch (RuntimeException e) {
            got = e.getClass();
        }
        due(what, want, got);
    }

    /** The call is refused, and leaves all as in a village that was not called. */
    static void keeps(String what, Class<?> want, Supplier<VillageWaves> make, Consumer<VillageWaves> call) {
        VillageWaves called = make.get();
        refused(what, want, () -> call.accept(called));
        due("all there is behind " + what, stateOf(make.get()), stateOf(called));
    }

    static void dueCounts(VillageWaves v, int... facts) {
        for (int what = 0; what < facts.length; what++) {
            due("count " + what, facts[what], v.count(what));
        }
    }

    static void dueHouse(VillageWaves v, int house, int... facts) {
        for (int what = 0; what < facts.length; what++) {
            due("house " + house + ", " + what, facts[what], v.house(house, what));
        }
    }

    static void dueEntry(VillageWaves v, int house, int index, int... facts) {
        for (int what = 0; what < facts.length; what++) {
            due("entry " + index + " of house " + house + ", " + what, facts[what], v.entry(house, index, what));
        }
    }

    static void dueNews(VillageWaves v, int news, int... facts) {
        for (int what = 0; what < facts.length; what++) {
            due("news " + news + ", " + what, facts[what], v.news(news, what));
        }
    }

    static void dueSpoken(VillageWaves v, int index, int... facts) {
        for (int what = 0; what < facts.length; what++) {
            due("spoken " + index + ", " + what, facts[what], v.spoken(index, what));
        }
    }

    // ---- all that there is

    /**
     * All that the calls tell, of the text and of the saved states too; the village is used up by it. The text
     * is known by its load: of one that ends too early the error position is the length.
     */
    static String stateOf(VillageWaves v) {
        StringBuilder all = new StringBuilder(seen(v));
        all.append(" error ").append(v.errorCode()).append(' ').append(v.errorPosition());
        all.append(" text ").append(v.load());
        all.append(' ').append(v.errorCode()).append(' ').append(v.errorPosition()).append(counts(v));
        for (int slot = 0; slot < 2; slot++) {
            all.append(" slot ").append(slot).append(restored(v, slot));
        }
        return all.toString();
    }

    static String seen(VillageWaves v) {
        StringBuilder all = new StringBuilder(counts(v));
        for (int house = 0; house < v.count(6); house++) {
            for (int what = 0; what <= 14; what++) {
                all.append(' ').append(v.house(house, what));
            }
            for (int index = 0; index < v.house(house, 13); index++) {
                for (int what = 0; what <= 3; what++) {
                    all.append(' ').append(v.entry(house, index, what));
                }
            }
            for (int news = 0; news < v.count(7); news++) {
                all.append(' ').append(v.source(house, news)).append(' ').append(v.owes(house, news));
            }
        }
        for (int news = 0; news < v.count(7); news++) {
            for (int what = 0; what <= 9; what++) {
                all.append(' ').append(v.news(news, what));
            }
        }
        for (int index = 0; index < Math.min(12, v.count(10)); index++) {
            for (int what = 0; what <= 5; what++) {
                all.append(' ').append(v.spoken(index, what));
            }
        }
        return all.toString();
    }

    private static String counts(VillageWaves v) {
        StringBuilder all = new StringBuilder(" counts");
        for (int what = 0; what <= 13; what++) {
            all.append(' ').append(v.count(what));
        }
        return all.toString();
    }

    private static String restored(VillageWaves v, int slot) {
        try {
            v.restore(slot);
        } catch (IllegalStateException e) {
            return " empty";
        }
        return counts(v);
    }

    // ---- villages

    static void write(VillageWaves v, String text) {
        v.truncateText(0);
        byte[] bytes = text.getBytes(StandardCharsets.ISO_8859_1);
        for (int at = 0; at < bytes.length; at += 4) {
            int four = 0;
            for (int i = at; i < at + 4; i++) {
                four = four << 8 | (i < bytes.length ? bytes[i] & 255 : ' ');
            }
            v.appendText(four);
        }
        v.truncateText(bytes.length);
    }

    static VillageWaves loaded(String text) {
        VillageWaves v = new VillageWaves();
        write(v, text);
        v.load();
        due("errorCode of " + text, 0, v.errorCode());
        return v;
    }

    /** The text is a setup of so many houses. */
    static void loads(String text, int houses) {
        VillageWaves v = new VillageWaves();
        write(v, text);
        due("load of " + text, houses, v.load());
        due("errorCode of " + text, 0, v.errorCode());
        due("errorPosition of " + text, NONE, v.errorPosition());
    }

    /** The text has this error. */
    static void errs(String text, int code, int position) {
        VillageWaves v = new VillageWaves();
        write(v, text);
        due("load of " + text, NONE, v.load());
        due("errorCode of " + text, code, v.errorCode());
        due("errorPosition of " + text, position, v.errorPosition());
    }

    /** Three houses in a line: 0 and 1 reach their neighbours, 2 reaches none; one day, no news. */
    static VillageWaves line() {
        return loaded("house 0 0 10 100 1;house 10 0 10 100 2;house 20 0 5 100 1;");
    }

    /** Of the line, at the time 10: the news 0 of house 0 came to 1, and from it to 2; all was sent. */
    static VillageWaves told() {
        VillageWaves v = line();
        v.tell(0, 7);
        v.run(10);
        return v;
    }

    /** At the time 1: house 0 owes a correction to 1, that cannot hear; it speaks in each minute, 98 of this day. */
    static VillageWaves chatter() {
        VillageWaves v = loaded("day 240;set 0 1;set 3 99;set 4 0;house 0 0 9 999 1;house 1 0 9 1 1;news 0 1;");
        v.run(1);
        v.correct(0, 0, 1);
        return v;
    }

    /** A chain of twelve houses, each in the range of those beside it alone. */
    static String chain() {
        StringBuilder text = new StringBuilder();
        for (int house = 0; house < 12; house++) {
            text.append("house ").append(8 * house).append(" 0 8 999 1;");
        }
        return text.toString();
    }

    static String times(int number, String part) {
        return part.repeat(number);
    }

    /** An X behind which the next draw of n draws this number. */
    static int seedFor(int n, int drawn) {
        for (int x = 0; x < 1000003; x++) {
            if ((1103 * x + 12345) % 1000003 % n == drawn) {
                return x;
            }
        }
        throw new IllegalStateException("no X draws " + drawn + " of " + n);
    }
}
