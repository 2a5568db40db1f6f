import java.lang.reflect.InvocationTargetException;
import java.lang.reflect.Method;
import java.nio.charset.StandardCharsets;
import java.util.ArrayList;
import java.util.Arrays;
import java.util.List;
import java.util.Random;

/**
 * Plays random runs of at most 512 calls on VillageWaves and on Model, and compares each answer and
 * each exception; then, on both, all that the calls tell of the state.
 */
public final class RandomRunsTest {
    private static final int RUNS = 250;
    private static final int MOST_CALLS = 512;
    private static int wrong = 0;

    private final Random random;
    private final VillageWaves real = new VillageWaves();
    private final Model model = new Model();
    private final List<String> calls = new ArrayList<>();
    private boolean same = true;

    private RandomRunsTest(long seed) {
        random = new Random(seed);
    }

    public static void main(String[] args) {
        int runs = args.length > 0 ? Integer.parseInt(args[0]) : RUNS;
        for (int seed = 1; seed <= runs && wrong < 5; seed++) {
            new RandomRunsTest(seed).play(seed);
        }
        System.out.println(wrong == 0 ? runs + " random runs answer as the model" : wrong + " runs differ");
        if (wrong != 0) {
            System.exit(1);
        }
    }

    private void play(int seed) {
        start(seed % 3 == 0);
        int busy = random.nextInt(3);
        while (same && calls.size() < MOST_CALLS) {
            randomCall(busy);
        }
        if (same) {
            compareAll();
        }
        if (!same) {
            wrong++;
            System.out.println("seed " + seed + ": " + calls.subList(Math.max(0, calls.size() - 8), calls.size()));
        }
    }

    /** Answers what both answered; notes a difference. */
    private Object both(String name, int... args) {
        Object due = answer(model, name, args);
        Object got = answer(real, name, args);
        calls.add(name + Arrays.toString(args));
        if (!due.equals(got)) {
            same = false;
            System.out.println(name + Arrays.toString(args) + " answered " + got + ", due is " + due);
        }
        return due;
    }

    private static Object answer(Object target, String name, int[] args) {
        Class<?>[] types = new Class<?>[args.length];
        Object[] values = new Object[args.length];
        for (int i = 0; i < args.length; i++) {
            types[i] = int.class;
            values[i] = args[i];
        }
        try {
            Method method = target.getClass().getMethod(name, types);
            Object answer = method.invoke(target, values);
            return answer == null ? "nothing" : answer;
        } catch (InvocationTargetException e) {
            return e.getCause().getClass().getName();
        } catch (ReflectiveOperationException e) {
            throw new IllegalStateException(e);
        }
    }

    private int within(int least, int most) {
        return least + random.nextInt(most - least + 1);
    }

    /** Mostly a value of the range, sometimes one beside it or an extreme one. */
    private int nearly(int least, int most) {
        switch (random.nextInt(40)) {
            case 0: return least - 1;
            case 1: return most + 1;
            case 2: return random.nextBoolean() ? Integer.MIN_VALUE : Integer.MAX_VALUE;
            case 3: return most;
            case 4: return least;
            case 5: return random.nextInt();
            default: return within(least, Math.max(least, most));
        }
    }

    private int anyHouse() {
        return nearly(0, (Integer) answer(model, "count", new int[] {6}) - 1);
    }

    private int anyNews() {
        return nearly(0, (Integer) answer(model, "count", new int[] {7}) - 1);
    }

    private void start(boolean byText) {
        if (byText) {
            loadText(randomText());
        }
        int houses = within(0, 12);
        int reach = within(5, 60);
        for (int i = 0; i < houses; i++) {
            both("addHouse", within(0, 60), within(0, 60), Math.min(150, reach + within(-4, 30)), within(0, 300), within(1, 9));
            if (random.nextInt(3) == 0) {
                both("setQuiet", i, within(0, 47), within(0, 47));
            }
        }
        both("seed", within(0, 1000002));
        if (random.nextBoolean()) {
            both("set", 4, within(0, 11));
            both("set", 2, within(0, 200));
        }
    }

    private void randomCall(int busy) {
        switch (random.nextInt(30)) {
            case 0: both("tell", anyHouse(), nearly(0, 99)); break;
            case 1: case 2: both("correct", anyHouse(), anyNews(), nearly(0, 99)); break;
            case 3: case 4: case 5: case 6: both("run", busy == 0 ? within(1, 3) : nearly(1, 30)); break;
            case 7: both("wishes"); both("next"); both("chance", anyHouse()); break;
            case 8: both("reached", anyNews(), random.nextInt(9) == 0 ? nearly(1, 500) : nearly(1, 40), nearly(0, 2)); break;
            case 9: both("correctedIn", anyNews(), random.nextInt(9) == 0 ? nearly(1, 500) : nearly(1, 40)); break;
            case 10: both("ahead", random.nextInt(9) == 0 ? nearly(1, 500) : nearly(1, 40), nearly(0, 3)); break;
            case 11: if (random.nextInt(4) == 0) both("bestAuthor", random.nextInt(9) == 0 ? nearly(1, 200) : nearly(1, 20)); break;
            case 12: case 13: both("entry", anyHouse(), nearly(0, 4), nearly(0, 4)); break;
            case 14: both("news", anyNews(), nearly(0, 9)); break;
            case 15: both("house", anyHouse(), nearly(0, 14)); break;
            case 16: both("source", anyHouse(), anyNews()); both("owes", anyHouse(), anyNews()); break;
            case 17: both("spoken", nearly(0, 32), nearly(0, 5)); break;
            case 18: both("near", anyHouse(), nearly(0, 11)); break;
            case 19: both("hops", anyHouse(), anyHouse()); both("overlap", anyHouse(), anyHouse()); break;
            case 20: both("meanBattery"); both("count", nearly(0, 13)); break;
            case 21: both("charge", anyHouse(), nearly(-999, 999)); break;
            case 22: both("set", nearly(0, 4), random.nextInt(9) == 0 ? nearly(0, 240) : within(0, 12)); break;
            case 23: both("setQuiet", anyHouse(), nearly(-1, 60), nearly(-1, 60)); break;
            case 24: if (random.nextInt(3) == 0) both("save", nearly(0, 1)); break;
            case 25: if (random.nextInt(9) == 0) both("restore", nearly(0, 1)); break;
            case 26: if (random.nextInt(9) == 0) both("seed", nearly(0, 1000002)); break;
            case 27: if (random.nextInt(9) == 0) loadText(randomText()); break;
            case 28: both("addHouse", nearly(0, 99), nearly(0, 99), nearly(0, 150), nearly(0, 999), nearly(1, 9)); break;
            default: compareAll(); break;
        }
    }

    /** What all calls tell that ask without an effect, up to one beyond what there is; these are not noted. */
    private void compareAll() {
        int noted = calls.size();
        int houses = (Integer) answer(model, "count", new int[] {6});
        int allNews = (Integer) answer(model, "count", new int[] {7});
        for (int what = 0; what <= 13; what++) {
            both("count", what);
        }
        for (int house = 0; house < houses; house++) {
            compareHouse(house, allNews);
        }
        both("house", houses, 0);
        for (int news = 0; news < allNews; news++) {
            for (int what = 0; what <= 9; what++) {
                both("news", news, what);
            }
        }
        both("news", allNews, 0);
        for (int index = 0; index < 32; index++) {
            for (int what = 0; what <= 5; what++) {
                both("spoken", index, what);
            }
        }
        both("errorCode");
        both("errorPosition");
        if (same) {
            calls.subList(noted, calls.size()).clear();
        }
        calls.add("compareAll");
    }

    private void compareHouse(int house, int allNews) {
        for (int what = 0; what <= 14; what++) {
            both("house", house, what);
        }
        for (int news = 0; news < allNews; news++) {
            both("source", house, news);
            both("owes", house, news);
        }
        int entries = (Integer) answer(model, "house", new int[] {house, 13});
        for (int index = 0; index < entries; index++) {
            for (int what = 0; what <= 4; what++) {
                both("entry", house, index, what);
            }
        }
        both("entry", house, entries, 0);
    }

    private void loadText(String text) {
        byte[] bytes = text.getBytes(StandardCharsets.ISO_8859_1);
        for (int at = 0; at < bytes.length; at += 4) {
            int four = 0;
            for (int i = at; i < at + 4; i++) {
                four = four << 8 | (i < bytes.length ? bytes[i] & 255 : ' ');
            }
            both("appendText", four);
        }
        if (bytes.length % 4 != 0 && bytes.length <= 700) {
            both("truncateText", bytes.length);
        }
        both("truncateText", nearly(bytes.length + 1, bytes.length + 9));
        both("load");
        both("errorCode");
        both("errorPosition");
    }

    private String randomText() {
        StringBuilder text = new StringBuilder();
        int day = 48;
        if (random.nextBoolean()) {
            day = within(24, 240);
            text.append("day ").append(day).append(';');
        }
        int houses = 0;
        int parts = within(0, 30);
        boolean many = random.nextInt(4) == 0;
        for (int i = 0; i < parts; i++) {
            switch (houses == 0 && random.nextInt(9) > 0 ? 0 : random.nextInt(many ? 2 : 5)) {
                case 0:
                    text.append(blank()).append("house").append(blank()).append(digits(mostly(0, 99))).append(' ')
                            .append(digits(mostly(0, 99))).append('\n').append(digits(mostly(0, 150))).append(' ')
                            .append(digits(mostly(0, 999))).append(' ').append(digits(mostly(1, 9)));
                    if (random.nextInt(3) == 0) {
                        text.append(" quiet ").append(mostly(0, day - 1)).append(' ').append(mostly(0, day - 1));
                    }
                    houses++;
                    break;
                case 1:
                    text.append("news ").append(mostly(0, Math.max(0, houses - 1))).append(blank()).append(' ')
                            .append(mostly(0, 99));
                    break;
                case 2:
                    text.append("seed").append(mostly(0, 1000002));
                    break;
                default:
                    text.append("set").append(blank()).append(mostly(0, 4)).append(' ').append(mostly(1, 11));
                    break;
            }
            text.append(blank()).append(';').append(blank());
        }
        if (random.nextInt(3) == 0 && text.length() > 0) {
            spoil(text);
        }
        return text.length() > 700 ? text.substring(0, 700) : text.toString();
    }

    /** A number of the range, rarely one beside it. */
    private int mostly(int least, int most) {
        return random.nextInt(200) == 0 ? most + 1 : random.nextInt(300) == 0 ? Math.max(0, least - 1) : within(least, most);
    }

    private String digits(int number) {
        return random.nextInt(60) == 0 ? "000000000000000" + number : random.nextInt(900) == 0 ? number + "99999999999999" : "" + number;
    }

    private String blank() {
        switch (random.nextInt(6)) {
            case 0: return " ";
            case 1: return "\n";
            case 2: return "  ";
            default: return "";
        }
    }

    private void spoil(StringBuilder text) {
        int at = random.nextInt(text.length());
        String strange = ";a9 \nA\t\0\u00e9-,{`:/";
        switch (random.nextInt(4)) {
            case 0: text.setLength(at); break;
            case 1: text.deleteCharAt(at); break;
            case 2: text.insert(at, strange.charAt(random.nextInt(strange.length()))); break;
            default: text.setCharAt(at, strange.charAt(random.nextInt(strange.length()))); break;
        }
    }
}
