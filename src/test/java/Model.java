import java.nio.charset.StandardCharsets;
import java.util.ArrayList;
import java.util.Comparator;
import java.util.List;
import java.util.Map;
import java.util.TreeMap;
import java.util.TreeSet;

/**
 * The document once more, in its plainest words and with the whole Java library: what RandomRunsTest
 * compares VillageWaves with. It shares no code and no way of holding the state with it.
 */
public final class Model {
    private static final int NONE = -1;

    private static final class Entry {
        boolean correction;
        int news;
        int time;
        int hops;

        Entry(boolean correction, int news, int time, int hops) {
            this.correction = correction;
            this.news = news;
            this.time = time;
            this.hops = hops;
        }

        Entry copy() {
            return new Entry(correction, news, time, hops);
        }
    }

    private static final class House {
        int number, x, y, range, battery, share, a = NONE, b = NONE, today, ever;
        List<Entry> queue = new ArrayList<>();
        TreeSet<Integer> news = new TreeSet<>();
        TreeSet<Integer> corrections = new TreeSet<>();
        Map<Integer, Integer> source = new TreeMap<>();

        House copy() {
            House h = new House();
            h.number = number; h.x = x; h.y = y; h.range = range; h.battery = battery;
            h.share = share; h.a = a; h.b = b; h.today = today; h.ever = ever;
            for (Entry e : queue) h.queue.add(e.copy());
            h.news.addAll(news);
            h.corrections.addAll(corrections);
            h.source.putAll(source);
            return h;
        }

        boolean reaches(House other) {
            return other.number != number
                    && (x - other.x) * (x - other.x) + (y - other.y) * (y - other.y) <= range * range;
        }

        boolean quiet(int minute) {
            if (a == NONE) return false;
            if (a <= b) return a <= minute && minute <= b;
            return minute >= a || minute <= b;
        }
    }

    private static final class News {
        int author, told, body, body2 = NONE, corrector = NONE, corrected = NONE, mostHops;

        News copy() {
            News n = new News();
            n.author = author; n.told = told; n.body = body; n.body2 = body2;
            n.corrector = corrector; n.corrected = corrected; n.mostHops = mostHops;
            return n;
        }
    }

    private static final class State {
        int[] settings = {5, 1, 40, 10, 11};
        int day = 48, time, lot = 1;
        List<House> houses = new ArrayList<>();
        List<News> news = new ArrayList<>();
        List<int[]> log = new ArrayList<>();
        int speeches, got, learned, lost;

        State copy() {
            State s = new State();
            s.settings = settings.clone();
            s.day = day; s.time = time; s.lot = lot; s.speeches = speeches;
            for (House h : houses) s.houses.add(h.copy());
            for (News n : news) s.news.add(n.copy());
            for (int[] row : log) s.log.add(row.clone());
            return s;
        }

        TreeSet<Integer> owed(House h, int n) {
            TreeSet<Integer> owed = new TreeSet<>();
            if (!h.corrections.contains(n)) return owed;
            for (House o : houses) {
                boolean linked = Integer.valueOf(h.number).equals(o.source.get(n))
                        || Integer.valueOf(o.number).equals(h.source.get(n));
                if (linked && !o.corrections.contains(n)) owed.add(o.number);
            }
            return owed;
        }

        boolean sendable(House h, Entry e) {
            if (!e.correction) return true;
            for (int o : owed(h, e.news)) if (h.reaches(houses.get(o))) return true;
            return false;
        }

        List<Entry> ordered(House h) {
            List<Entry> sorted = new ArrayList<>(h.queue);
            sorted.sort(Comparator.<Entry>comparingInt(e -> e.correction ? 0 : 1)
                    .thenComparingInt(e -> e.time).thenComparingInt(e -> e.news));
            return sorted;
        }

        Entry firstSendable(House h) {
            for (Entry e : ordered(h)) if (sendable(h, e)) return e;
            return null;
        }

        void dawn() {
            if (time == 0 || time % day != 0) return;
            for (House h : houses) {
                h.battery = Math.min(999, h.battery + settings[2]);
                h.today = 0;
            }
        }

        List<House> wishers() {
            List<House> all = new ArrayList<>();
            for (House h : houses) {
                if (!h.quiet(time % day) && h.battery >= settings[0] && h.today < settings[3]
                        && firstSendable(h) != null) all.add(h);
            }
            return all;
        }

        House draw(List<House> wishers) {
            List<House> hat = new ArrayList<>();
            for (House h : wishers) for (int i = 0; i < h.share; i++) hat.add(h);
            lot = (int) ((1103L * lot + 12345L) % 1000003L);
            return hat.get(lot % hat.size());
        }

        int tell(int house, int body) {
            News n = new News();
            n.author = house; n.told = time; n.body = body;
            news.add(n);
            int number = news.size() - 1;
            houses.get(house).news.add(number);
            houses.get(house).queue.add(new Entry(false, number, time, 0));
            return number;
        }

        void learn(House h, int n) {
            h.corrections.add(n);
            h.queue.removeIf(e -> !e.correction && e.news == n);
            if (!owed(h, n).isEmpty()) h.queue.add(new Entry(true, n, time, NONE));
        }

        void minute() {
            dawn();
            List<House> wishers = wishers();
            if (!wishers.isEmpty()) speak(draw(wishers));
            for (House h : houses) h.queue.removeIf(e -> e.correction && owed(h, e.news).isEmpty());
            time++;
        }

        void speak(House speaker) {
            Entry sent = firstSendable(speaker);
            int heard = 0;
            int changed = 0;
            speaker.battery -= settings[0];
            lost += settings[0];
            speaker.today++;
            speaker.ever++;
            speeches++;
            for (House h : houses) {
                if (!speaker.reaches(h) || h.quiet(time % day) || h.battery < settings[1]) continue;
                heard |= 1 << h.number;
                h.battery -= settings[1];
                lost += settings[1];
                if (sent.correction && !h.corrections.contains(sent.news)) {
                    learn(h, sent.news);
                    learned++;
                    changed |= 1 << h.number;
                }
                if (!sent.correction && !h.corrections.contains(sent.news)
                        && !h.news.contains(sent.news)) {
                    h.news.add(sent.news);
                    h.source.put(sent.news, speaker.number);
                    int hops = sent.hops + 1;
                    News n = news.get(sent.news);
                    if (hops > n.mostHops) n.mostHops = hops;
                    if (hops <= settings[4]) h.queue.add(new Entry(false, sent.news, time, hops));
                    got++;
                    changed |= 1 << h.number;
                }
            }
            log.add(0, new int[] {time, speaker.number, sent.correction ? 1 : 0, sent.news, heard, changed});
            if (log.size() > 30) log.remove(30);
            if (!sent.correction) speaker.queue.remove(sent);
            else if (!owed(speaker, sent.news).isEmpty()) sent.time = time + 1;
        }

        int knowing(int n) {
            int set = 0;
            for (House h : houses) if (h.news.contains(n)) set |= 1 << h.number;
            return set;
        }

        int knowingCorrection(int n) {
            int set = 0;
            for (House h : houses) if (h.corrections.contains(n)) set |= 1 << h.number;
            return set;
        }

        int uncorrected(int n) {
            return news.get(n).corrector == NONE ? 0 : knowing(n) & ~knowingCorrection(n);
        }
    }

    private State s = new State();
    private final State[] saved = new State[2];
    private byte[] text = {};
    private int errorCode;
    private int errorPosition = NONE;

    private static int setOf(Iterable<Integer> members) {
        int set = 0;
        for (int m : members) set |= 1 << m;
        return set;
    }

    private void needHouse(int house) {
        if (house < 0 || house >= s.houses.size()) throw new IndexOutOfBoundsException();
    }

    private void needNews(int news) {
        if (news < 0 || news >= s.news.size()) throw new IndexOutOfBoundsException();
    }

    private static void need(boolean right) {
        if (!right) throw new IllegalArgumentException();
    }

    public int appendText(int fourBytes) {
        if (text.length > 696) throw new IllegalStateException();
        byte[] longer = java.util.Arrays.copyOf(text, text.length + 4);
        java.nio.ByteBuffer.wrap(longer).putInt(text.length, fourBytes);
        text = longer;
        return text.length;
    }

    public int truncateText(int length) {
        need(length >= 0 && length <= text.length);
        text = java.util.Arrays.copyOf(text, length);
        return length;
    }

    private static final class Wrong extends RuntimeException {
        private static final long serialVersionUID = 1;
        final int code;
        final int at;

        Wrong(int code, int at) {
            this.code = code;
            this.at = at;
        }
    }

    private static final class Parser {
        final String text;
        final java.util.regex.Matcher tokens;
        String token;
        int at;
        State s = new State();

        Parser(String text) {
            this.text = text;
            tokens = java.util.regex.Pattern.compile("[ \\n]*(?:([a-z]+|[0-9]+|;)|([^ \\n]))", java.util.regex.Pattern.DOTALL)
                    .matcher(text);
            advance();
        }

        void advance() {
            if (!tokens.find()) {
                token = "";
                at = text.length();
            } else if (tokens.group(1) == null) {
                token = "?";
                at = tokens.start(2);
            } else {
                token = tokens.group(1);
                at = tokens.start(1);
            }
        }

        void semicolon() {
            if (!token.equals(";")) throw new Wrong(1, at);
            advance();
        }

        int number(int least, int most) {
            if (token.isEmpty() || !Character.isDigit(token.charAt(0))) throw new Wrong(1, at);
            java.math.BigInteger v = new java.math.BigInteger(token);
            if (v.compareTo(java.math.BigInteger.valueOf(least)) < 0
                    || v.compareTo(java.math.BigInteger.valueOf(most)) > 0) throw new Wrong(2, at);
            advance();
            return v.intValue();
        }

        State setup() {
            if (token.equals("day")) {
                advance();
                s.day = number(24, 240);
                semicolon();
            }
            while (!token.isEmpty()) {
                statement();
                semicolon();
            }
            return s;
        }

        void statement() {
            switch (token) {
                case "house" -> {
                    if (s.houses.size() == 12) throw new Wrong(3, at);
                    advance();
                    House h = new House();
                    h.number = s.houses.size();
                    h.x = number(0, 99);
                    h.y = number(0, 99);
                    h.range = number(0, 150);
                    h.battery = number(0, 999);
                    h.share = number(1, 9);
                    if (token.equals("quiet")) {
                        advance();
                        h.a = number(0, s.day - 1);
                        h.b = number(0, s.day - 1);
                    }
                    s.houses.add(h);
                }
                case "set" -> {
                    advance();
                    int what = number(0, 4);
                    s.settings[what] = number(LEAST[what], MOST[what]);
                }
                case "seed" -> {
                    advance();
                    s.lot = number(0, 1000002);
                }
                case "news" -> {
                    if (s.news.size() == 20) throw new Wrong(3, at);
                    advance();
                    int house = number(0, s.houses.size() - 1);
                    s.tell(house, number(0, 99));
                }
                default -> throw new Wrong(1, at);
            }
        }
    }

    private static final int[] LEAST = {1, 0, 0, 1, 0};
    private static final int[] MOST = {50, 20, 200, 99, 11};

    public int load() {
        String whole = new String(text, StandardCharsets.ISO_8859_1);
        text = new byte[0];
        try {
            s = new Parser(whole).setup();
            errorCode = 0;
            errorPosition = NONE;
            return s.houses.size();
        } catch (Wrong e) {
            errorCode = e.code;
            errorPosition = e.at;
            return NONE;
        }
    }

    public int errorCode() {
        return errorCode;
    }

    public int errorPosition() {
        return errorPosition;
    }

    public int addHouse(int x, int y, int range, int battery, int share) {
        need(x >= 0 && x <= 99 && y >= 0 && y <= 99 && range >= 0 && range <= 150);
        need(battery >= 0 && battery <= 999 && share >= 1 && share <= 9);
        if (s.houses.size() == 12) throw new IllegalStateException();
        House h = new House();
        h.number = s.houses.size();
        h.x = x; h.y = y; h.range = range; h.battery = battery; h.share = share;
        s.houses.add(h);
        return h.number;
    }

    public void setQuiet(int house, int from, int to) {
        needHouse(house);
        need(from >= -1 && from < s.day && to >= -1 && to < s.day);
        need((from == -1) == (to == -1));
        s.houses.get(house).a = from;
        s.houses.get(house).b = to;
    }

    public int charge(int house, int more) {
        needHouse(house);
        need(more >= -999 && more <= 999);
        House h = s.houses.get(house);
        h.battery += more;
        if (h.battery < 0) h.battery = 0;
        if (h.battery > 999) h.battery = 999;
        return h.battery;
    }

    public int set(int what, int value) {
        need(what >= 0 && what <= 4);
        need(value >= LEAST[what] && value <= MOST[what]);
        int old = s.settings[what];
        s.settings[what] = value;
        return old;
    }

    public void seed(int seed) {
        need(seed >= 0 && seed <= 1000002);
        s.lot = seed;
    }

    public int count(int what) {
        need(what >= 0 && what <= 13);
        if (what <= 4) return s.settings[what];
        if (what == 5) return s.day;
        if (what == 6) return s.houses.size();
        if (what == 7) return s.news.size();
        if (what == 8) return s.time;
        if (what == 9) return s.lot;
        if (what == 10) return s.speeches;
        int sum = 0;
        if (what == 11) for (House h : s.houses) sum |= h.quiet(s.time % s.day) ? 1 << h.number : 0;
        if (what == 12) for (News n : s.news) sum += n.corrector == NONE ? 0 : 1;
        if (what == 13) for (House h : s.houses) sum += h.queue.size();
        return sum;
    }

    public int house(int house, int what) {
        needHouse(house);
        need(what >= 0 && what <= 14);
        House h = s.houses.get(house);
        int set = 0;
        if (what == 12) {
            for (int n : h.news) {
                if (s.news.get(n).corrector != NONE && !h.corrections.contains(n)) set |= 1 << n;
            }
        }
        if (what == 14) for (House o : s.houses) set |= h.reaches(o) ? 1 << o.number : 0;
        int[] answers = {h.x, h.y, h.range, h.battery, h.share, h.a, h.b,
            h.quiet(s.time % s.day) ? 1 : 0, h.today, h.ever, setOf(h.news), setOf(h.corrections),
            set, h.queue.size(), set};
        return answers[what];
    }

    public int entry(int house, int index, int what) {
        needHouse(house);
        House h = s.houses.get(house);
        if (index < 0 || index >= h.queue.size()) throw new IndexOutOfBoundsException();
        need(what >= 0 && what <= 4);
        Entry e = s.ordered(h).get(index);
        int[] answers = {e.correction ? 1 : 0, e.news, e.time, e.correction ? NONE : e.hops,
            s.sendable(h, e) ? 1 : 0};
        return answers[what];
    }

    public int news(int news, int what) {
        needNews(news);
        need(what >= 0 && what <= 9);
        News n = s.news.get(news);
        int[] answers = {n.author, n.told, n.body, n.body2, n.corrector, n.corrected,
            s.knowing(news), s.knowingCorrection(news), s.uncorrected(news), n.mostHops};
        return answers[what];
    }

    public int source(int house, int news) {
        needHouse(house);
        needNews(news);
        return s.houses.get(house).source.getOrDefault(news, NONE);
    }

    public int owes(int house, int news) {
        needHouse(house);
        needNews(news);
        return setOf(s.owed(s.houses.get(house), news));
    }

    public int spoken(int index, int what) {
        need(index >= 0 && what >= 0 && what <= 5);
        return index < s.log.size() ? s.log.get(index)[what] : NONE;
    }

    public int tell(int house, int body) {
        needHouse(house);
        need(body >= 0 && body <= 99);
        return s.news.size() == 20 ? -2 : s.tell(house, body);
    }

    public int correct(int house, int news, int body) {
        needHouse(house);
        needNews(news);
        need(body >= 0 && body <= 99);
        House h = s.houses.get(house);
        News n = s.news.get(news);
        if (!h.news.contains(news)) return -3;
        if (n.corrector != NONE) return -4;
        n.body2 = body;
        n.corrector = house;
        n.corrected = s.time;
        s.learn(h, news);
        return s.owed(h, news).size();
    }

    public int run(int minutes) {
        need(minutes >= 1 && minutes <= 500);
        int before = s.speeches;
        for (int i = 0; i < minutes; i++) s.minute();
        return s.speeches - before;
    }

    private State dawned() {
        State future = s.copy();
        future.dawn();
        return future;
    }

    public int wishes() {
        int set = 0;
        for (House h : dawned().wishers()) set |= 1 << h.number;
        return set;
    }

    public int next() {
        State future = dawned();
        List<House> wishers = future.wishers();
        return wishers.isEmpty() ? NONE : future.draw(wishers).number;
    }

    public double chance(int house) {
        needHouse(house);
        int sum = 0;
        boolean in = false;
        for (House h : dawned().wishers()) {
            sum += h.share;
            in |= h.number == house;
        }
        return in ? (double) s.houses.get(house).share / (double) sum : 0.0;
    }

    public int near(int house, int index) {
        needHouse(house);
        if (index < 0) throw new IndexOutOfBoundsException();
        House h = s.houses.get(house);
        List<House> others = new ArrayList<>(s.houses);
        others.remove(h);
        others.sort(Comparator.<House>comparingInt(o -> (o.x - h.x) * (o.x - h.x) + (o.y - h.y) * (o.y - h.y))
                .thenComparingInt(o -> o.number));
        return index < others.size() ? others.get(index).number : NONE;
    }

    public int hops(int from, int to) {
        needHouse(from);
        needHouse(to);
        Map<Integer, Integer> far = new TreeMap<>();
        List<Integer> line = new ArrayList<>();
        far.put(from, 0);
        line.add(from);
        for (int i = 0; i < line.size(); i++) {
            House h = s.houses.get(line.get(i));
            for (House o : s.houses) {
                if (h.reaches(o) && !far.containsKey(o.number)) {
                    far.put(o.number, far.get(h.number) + 1);
                    line.add(o.number);
                }
            }
        }
        return far.getOrDefault(to, NONE);
    }

    public int overlap(int one, int other) {
        needHouse(one);
        needHouse(other);
        int sum = 0;
        for (int m = 0; m < s.day; m++) {
            if (!s.houses.get(one).quiet(m) && !s.houses.get(other).quiet(m)) sum++;
        }
        return sum;
    }

    public float meanBattery() {
        int sum = 0;
        for (House h : s.houses) sum += h.battery;
        return s.houses.isEmpty() ? -1f : (float) sum / (float) s.houses.size();
    }

    private State after(int minutes) {
        State future = s.copy();
        for (int i = 0; i < minutes; i++) future.minute();
        return future;
    }

    public int reached(int news, int minutes, int what) {
        needNews(news);
        need(minutes >= 1 && minutes <= 500 && what >= 0 && what <= 2);
        State future = after(minutes);
        if (what == 0) return Integer.bitCount(future.knowing(news));
        if (what == 1) return Integer.bitCount(future.knowingCorrection(news));
        return Integer.bitCount(future.uncorrected(news));
    }

    public int correctedIn(int news, int most) {
        needNews(news);
        need(most >= 1 && most <= 500);
        if (s.news.get(news).corrector == NONE) return NONE;
        State future = s.copy();
        for (int i = 0; i <= most; i++) {
            boolean all = true;
            for (House h : future.houses) {
                all &= !h.news.contains(news) || h.corrections.contains(news);
            }
            if (all) return i;
            future.minute();
        }
        return NONE;
    }

    public int ahead(int minutes, int what) {
        need(minutes >= 1 && minutes <= 500 && what >= 0 && what <= 3);
        State future = after(minutes);
        int[] answers = {future.speeches - s.speeches, future.got, future.learned, future.lost};
        return answers[what];
    }

    public int bestAuthor(int minutes) {
        need(minutes >= 1 && minutes <= 200);
        if (s.houses.isEmpty() || s.news.size() == 20) return NONE;
        int best = NONE;
        int most = -1;
        for (House h : s.houses) {
            State future = s.copy();
            int n = future.tell(h.number, 0);
            for (int i = 0; i < minutes; i++) future.minute();
            int knowers = Integer.bitCount(future.knowing(n));
            if (knowers > most) {
                most = knowers;
                best = h.number;
            }
        }
        return best;
    }

    public void save(int slot) {
        need(slot == 0 || slot == 1);
        saved[slot] = s.copy();
    }

    public void restore(int slot) {
        need(slot == 0 || slot == 1);
        if (saved[slot] == null) throw new IllegalStateException();
        s = saved[slot].copy();
    }
}
