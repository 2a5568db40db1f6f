import java.util.Arrays;

/**
 * A radio of a village on one channel: houses draw lots for minutes, relay news once each, are
 * quiet at their hours, have batteries; corrections go back along all ways on which news went.
 * Sets of houses and sets of news are ints: bit k stands for number k.
 */
public final class VillageWaves {
    /** There is none. */
    public static final int NONE = -1;

    private static final int MOST_HOUSES = 12;
    private static final int MOST_NEWS = 20;
    private static final int MOST_BYTES = 700;
    private static final int MOST_MINUTES = 500;
    private static final int MOST_TRIED_MINUTES = 200;
    private static final int KEPT_MINUTES = 30;
    private static final int FACTS_OF_A_MINUTE = 6;

    private static final int MOST_PLACE = 99;
    private static final int MOST_RANGE = 150;
    private static final int MOST_BATTERY = 999;
    private static final int MOST_SHARE = 9;
    private static final int MOST_BODY = 99;

    private static final int FIRST_DAY = 48;
    private static final int LEAST_DAY = 24;
    private static final int MOST_DAY = 240;

    private static final int FIRST_LOT = 1;
    private static final int LOTS = 1000003;
    private static final int LOT_FACTOR = 1103;
    private static final int LOT_STEP = 12345;

    private static final int SPEAK = 0;
    private static final int LISTEN = 1;
    private static final int CHARGE = 2;
    private static final int QUOTA = 3;
    private static final int HOPS = 4;
    private static final int SETTINGS = 5;
    private static final int[] FIRST_VALUES = {5, 1, 40, 10, 11};
    private static final int[] LEAST_VALUES = {1, 0, 0, 1, 0};
    private static final int[] MOST_VALUES = {50, 20, 200, 99, 11};

    private static final int NEWS_ARE_FULL = -2;
    private static final int NEWS_IS_UNKNOWN = -3;
    private static final int NEWS_IS_CORRECTED = -4;

    private static final int NOT_ALLOWED = 1;
    private static final int OUT_OF_RANGE = 2;
    private static final int TOO_MANY = 3;

    private final Village now = new Village();
    /** Where predictions are played and texts are read, so that a call makes no rows of its own. */
    private final Village draft = new Village();
    private final Village firstSaved = new Village();
    private final Village secondSaved = new Village();
    private int savedSlots = 0;
    private final Reader reader = new Reader();

    public VillageWaves() {
    }

    // ---- setup texts

    public int appendText(int fourBytes) throws IllegalStateException {
        Text text = reader.text;
        if (text.length + 4 > MOST_BYTES) {
            throw new IllegalStateException("the text would be too long");
        }
        text.append(fourBytes >>> 24);
        text.append(fourBytes >>> 16);
        text.append(fourBytes >>> 8);
        text.append(fourBytes);
        return text.length;
    }

    public int truncateText(int length) throws IllegalArgumentException {
        checkWithin(length, 0, reader.text.length);
        reader.text.length = length;
        return length;
    }

    public int load() {
        boolean isSetup = reader.readSetup(draft);
        reader.text.length = 0;
        if (!isSetup) {
            return NONE;
        }
        now.copyFrom(draft);
        return now.homes.number;
    }

    public int errorCode() {
        return reader.code;
    }

    public int errorPosition() {
        return reader.position;
    }

    // ---- houses and settings

    public int addHouse(int x, int y, int range, int battery, int share)
            throws IllegalArgumentException, IllegalStateException {
        checkWithin(x, 0, MOST_PLACE);
        checkWithin(y, 0, MOST_PLACE);
        checkWithin(range, 0, MOST_RANGE);
        checkWithin(battery, 0, MOST_BATTERY);
        checkWithin(share, 1, MOST_SHARE);
        if (now.homes.isFull()) {
            throw new IllegalStateException("there are 12 houses");
        }
        return now.homes.add(x, y, range, battery, share);
    }

    public void setQuiet(int house, int from, int to)
            throws IndexOutOfBoundsException, IllegalArgumentException {
        checkHouse(house);
        checkWithin(from, NONE, now.day - 1);
        checkWithin(to, NONE, now.day - 1);
        if ((from == NONE) != (to == NONE)) {
            throw new IllegalArgumentException("just one of both is NONE");
        }
        now.homes.quietFrom.put(house, from);
        now.homes.quietTo.put(house, to);
    }

    public int charge(int house, int more)
            throws IndexOutOfBoundsException, IllegalArgumentException {
        checkHouse(house);
        checkWithin(more, -MOST_BATTERY, MOST_BATTERY);
        now.homes.addToBattery(house, more);
        return now.homes.battery.get(house);
    }

    public int set(int what, int value) throws IllegalArgumentException {
        checkWithin(what, 0, SETTINGS - 1);
        checkWithin(value, element(LEAST_VALUES, what), element(MOST_VALUES, what));
        int previous = now.settings.get(what);
        now.settings.put(what, value);
        return previous;
    }

    public void seed(int seed) throws IllegalArgumentException {
        checkWithin(seed, 0, LOTS - 1);
        now.lot = seed;
    }

    // ---- what there is

    public int count(int what) throws IllegalArgumentException {
        checkWithin(what, 0, 13);
        switch (what) {
            case 5: return now.day;
            case 6: return now.homes.number;
            case 7: return now.tidings.number;
            case 8: return now.time;
            case 9: return now.lot;
            case 10: return now.journal.total;
            case 11: return now.homes.quietAt(now.minuteOfDay());
            case 12: return now.tidings.correctedNumber();
            case 13: return now.newsEntries.total() + now.correctionEntries.total();
            default: return now.settings.get(what);
        }
    }

    public int house(int house, int what)
            throws IndexOutOfBoundsException, IllegalArgumentException {
        checkHouse(house);
        checkWithin(what, 0, 14);
        switch (what) {
            case 0: return now.homes.x.get(house);
            case 1: return now.homes.y.get(house);
            case 2: return now.homes.range.get(house);
            case 3: return now.homes.battery.get(house);
            case 4: return now.homes.share.get(house);
            case 5: return now.homes.quietFrom.get(house);
            case 6: return now.homes.quietTo.get(house);
            case 7: return now.homes.isQuiet(house, now.minuteOfDay()) ? 1 : 0;
            case 8: return now.homes.spokenToday.get(house);
            case 9: return now.homes.spokenEver.get(house);
            case 10: return now.tidings.newsKnownAt(house);
            case 11: return now.tidings.correctionsKnownAt(house);
            case 12: return now.tidings.uncorrectedAt(house);
            case 13: return now.newsEntries.size(house) + now.correctionEntries.size(house);
            default: return now.homes.inRange.get(house);
        }
    }

    public int entry(int house, int index, int what)
            throws IndexOutOfBoundsException, IllegalArgumentException {
        checkHouse(house);
        int corrections = now.correctionEntries.size(house);
        int all = corrections + now.newsEntries.size(house);
        if (index < 0 || index >= all) {
            throw new IndexOutOfBoundsException("there is no such entry");
        }
        checkWithin(what, 0, 4);
        if (index < corrections) {
            return correctionEntryFact(house, now.correctionEntries.at(house, index), what);
        }
        return newsEntryFact(house, now.newsEntries.at(house, index - corrections), what);
    }

    public int news(int news, int what)
            throws IndexOutOfBoundsException, IllegalArgumentException {
        checkNews(news);
        checkWithin(what, 0, 9);
        switch (what) {
            case 0: return now.tidings.author.get(news);
            case 1: return now.tidings.toldAt.get(news);
            case 2: return now.tidings.body.get(news);
            case 3: return now.tidings.correctedBody.get(news);
            case 4: return now.tidings.corrector.get(news);
            case 5: return now.tidings.correctedAt.get(news);
            case 6: return now.tidings.knowers.get(news);
            case 7: return now.tidings.correctionKnowers.get(news);
            case 8: return now.tidings.uncorrectedHouses(news);
            default: return now.tidings.mostHops.get(news);
        }
    }

    public int source(int house, int news) throws IndexOutOfBoundsException {
        checkHouse(house);
        checkNews(news);
        return now.sources.get(cell(house, news));
    }

    public int owes(int house, int news) throws IndexOutOfBoundsException {
        checkHouse(house);
        checkNews(news);
        return now.owedBy(house, news);
    }

    public int spoken(int index, int what) throws IllegalArgumentException {
        if (index < 0) {
            throw new IllegalArgumentException("the index is negative");
        }
        checkWithin(what, 0, FACTS_OF_A_MINUTE - 1);
        return now.journal.fact(index, what);
    }

    // ---- acts

    public int tell(int house, int body)
            throws IndexOutOfBoundsException, IllegalArgumentException {
        checkHouse(house);
        checkWithin(body, 0, MOST_BODY);
        if (now.tidings.isFull()) {
            return NEWS_ARE_FULL;
        }
        return now.addNews(house, body);
    }

    public int correct(int house, int news, int body)
            throws IndexOutOfBoundsException, IllegalArgumentException {
        checkHouse(house);
        checkNews(news);
        checkWithin(body, 0, MOST_BODY);
        if (!contains(now.tidings.knowers.get(news), house)) {
            return NEWS_IS_UNKNOWN;
        }
        if (now.tidings.isCorrected(news)) {
            return NEWS_IS_CORRECTED;
        }
        now.addCorrection(house, news, body);
        return Integer.bitCount(now.owedBy(house, news));
    }

    // ---- time

    public int run(int minutes) throws IllegalArgumentException {
        checkWithin(minutes, 1, MOST_MINUTES);
        int before = now.journal.total;
        now.pass(minutes);
        return now.journal.total - before;
    }

    public int wishes() {
        return wishingInDraft();
    }

    public int next() {
        int wishing = wishingInDraft();
        return wishing == 0 ? NONE : draft.drawnOf(wishing);
    }

    public double chance(int house) throws IndexOutOfBoundsException {
        checkHouse(house);
        int wishing = wishingInDraft();
        int shares = now.homes.sharesOf(wishing);
        if (!contains(wishing, house) || shares <= 0) {
            return 0.0;
        }
        return (double) now.homes.share.get(house) / (double) shares;
    }

    // ---- what follows from ranges and hours (whatever batteries have)

    public int near(int house, int index) throws IndexOutOfBoundsException {
        checkHouse(house);
        if (index < 0) {
            throw new IndexOutOfBoundsException("the index is negative");
        }
        return now.homes.nearest(house, index);
    }

    public int hops(int from, int to) throws IndexOutOfBoundsException {
        checkHouse(from);
        checkHouse(to);
        return now.homes.sendings(from, to);
    }

    public int overlap(int one, int other) throws IndexOutOfBoundsException {
        checkHouse(one);
        checkHouse(other);
        int minutes = 0;
        for (int minute = 0; minute < now.day; minute++) {
            if (!now.homes.isQuiet(one, minute) && !now.homes.isQuiet(other, minute)) {
                minutes++;
            }
        }
        return minutes;
    }

    public float meanBattery() {
        int number = now.homes.number;
        if (number <= 0) {
            return -1;
        }
        return (float) now.homes.batterySum() / (float) number;
    }

    // ---- predictions (with the lots that would be drawn, if only time passes; nothing changes)

    public int reached(int news, int minutes, int what)
            throws IndexOutOfBoundsException, IllegalArgumentException {
        checkNews(news);
        checkWithin(minutes, 1, MOST_MINUTES);
        checkWithin(what, 0, 2);
        draft.copyFrom(now);
        draft.pass(minutes);
        switch (what) {
            case 0: return Integer.bitCount(draft.tidings.knowers.get(news));
            case 1: return Integer.bitCount(draft.tidings.correctionKnowers.get(news));
            default: return Integer.bitCount(draft.tidings.uncorrectedHouses(news));
        }
    }

    public int correctedIn(int news, int most)
            throws IndexOutOfBoundsException, IllegalArgumentException {
        checkNews(news);
        checkWithin(most, 1, MOST_MINUTES);
        if (!now.tidings.isCorrected(news)) {
            return NONE;
        }
        draft.copyFrom(now);
        for (int passed = 0; passed <= most; passed++) {
            if (draft.tidings.uncorrectedHouses(news) == 0) {
                return passed;
            }
            draft.minute();
        }
        return NONE;
    }

    public int ahead(int minutes, int what) throws IllegalArgumentException {
        checkWithin(minutes, 1, MOST_MINUTES);
        checkWithin(what, 0, 3);
        draft.copyFrom(now);
        draft.pass(minutes);
        switch (what) {
            case 0: return draft.journal.total - now.journal.total;
            case 1: return sizesOf(draft.tidings.knowers, now.tidings.knowers);
            case 2: return sizesOf(draft.tidings.correctionKnowers, now.tidings.correctionKnowers);
            default: return draft.spent - now.spent;
        }
    }

    public int bestAuthor(int minutes) throws IllegalArgumentException {
        checkWithin(minutes, 1, MOST_TRIED_MINUTES);
        if (now.tidings.isFull()) {
            return NONE;
        }
        int best = NONE;
        int most = 0;
        for (int house = 0; house < now.homes.number; house++) {
            draft.copyFrom(now);
            int news = draft.addNews(house, 0);
            draft.pass(minutes);
            int knowers = Integer.bitCount(draft.tidings.knowers.get(news));
            if (knowers > most) {
                most = knowers;
                best = house;
            }
        }
        return best;
    }

    // ---- saved states

    public void save(int slot) throws IllegalArgumentException {
        checkWithin(slot, 0, 1);
        savedIn(slot).copyFrom(now);
        savedSlots |= bit(slot);
    }

    public void restore(int slot) throws IllegalArgumentException, IllegalStateException {
        checkWithin(slot, 0, 1);
        if (!contains(savedSlots, slot)) {
            throw new IllegalStateException("nothing is saved there");
        }
        now.copyFrom(savedIn(slot));
    }

    // ---- what the calls share

    private void checkHouse(int house) {
        if (house < 0 || house >= now.homes.number) {
            throw new IndexOutOfBoundsException("there is no such house");
        }
    }

    private void checkNews(int news) {
        if (news < 0 || news >= now.tidings.number) {
            throw new IndexOutOfBoundsException("there is no such news");
        }
    }

    private static void checkWithin(int value, int least, int most) {
        if (value < least || value > most) {
            throw new IllegalArgumentException("a parameter is out of range");
        }
    }

    /** Begins the next minute in the draft; answers the houses that wish to speak in it. */
    private int wishingInDraft() {
        draft.copyFrom(now);
        draft.beginDay();
        return draft.wishing();
    }

    private int correctionEntryFact(int house, int news, int what) {
        switch (what) {
            case 0: return 1;
            case 1: return news;
            case 2: return now.correctionEntries.time(house, news);
            case 3: return NONE;
            default: return contains(now.sendableCorrections(house), news) ? 1 : 0;
        }
    }

    private int newsEntryFact(int house, int news, int what) {
        switch (what) {
            case 0: return 0;
            case 1: return news;
            case 2: return now.newsEntries.time(house, news);
            case 3: return now.entryHops.get(cell(house, news));
            default: return 1;
        }
    }

    /** By how many members all the later sets of houses are greater than the earlier ones. */
    private int sizesOf(Row later, Row earlier) {
        int sum = 0;
        for (int news = 0; news < now.tidings.number; news++) {
            sum += Integer.bitCount(later.get(news)) - Integer.bitCount(earlier.get(news));
        }
        return sum;
    }

    private Village savedIn(int slot) {
        return slot == 0 ? firstSaved : secondSaved;
    }

    private static int bit(int member) {
        return 1 << member;
    }

    private static boolean contains(int members, int member) {
        return (members >> member & 1) != 0;
    }

    /** Where rows of houses and news keep this pair. */
    private static int cell(int house, int news) {
        return house * MOST_NEWS + news;
    }

    private static int element(int[] elements, int index) {
        return index >= 0 && index < elements.length ? elements[index] : 0;
    }

    /** A row of ints that tests each index, so that the machine never throws for one. */
    private static final class Row {
        private final int[] cells;

        Row(int length) {
            cells = new int[Math.max(length, 0)];
        }

        int get(int index) {
            return index >= 0 && index < cells.length ? cells[index] : 0;
        }

        void put(int index, int value) {
            if (index >= 0 && index < cells.length) {
                cells[index] = value;
            }
        }

        void add(int index, int more) {
            if (index >= 0 && index < cells.length) {
                cells[index] += more;
            }
        }

        /** Takes the cell as a set that gets a member. */
        void join(int index, int member) {
            if (index >= 0 && index < cells.length) {
                cells[index] |= 1 << member;
            }
        }

        /** Takes the cell as a set that loses a member. */
        void leave(int index, int member) {
            if (index >= 0 && index < cells.length) {
                cells[index] &= ~(1 << member);
            }
        }

        void fill(int value) {
            Arrays.fill(cells, value);
        }

        void copyFrom(Row other) {
            System.arraycopy(other.cells, 0, cells, 0, Math.min(cells.length, other.cells.length));
        }
    }

    /** The houses, with what is theirs alone. */
    private static final class Homes {
        private int number = 0;
        private final Row x = new Row(MOST_HOUSES);
        private final Row y = new Row(MOST_HOUSES);
        private final Row range = new Row(MOST_HOUSES);
        private final Row battery = new Row(MOST_HOUSES);
        private final Row share = new Row(MOST_HOUSES);
        private final Row quietFrom = new Row(MOST_HOUSES);
        private final Row quietTo = new Row(MOST_HOUSES);
        private final Row spokenToday = new Row(MOST_HOUSES);
        private final Row spokenEver = new Row(MOST_HOUSES);
        private final Row inRange = new Row(MOST_HOUSES);

        void clear() {
            number = 0;
        }

        void copyFrom(Homes other) {
            number = other.number;
            x.copyFrom(other.x);
            y.copyFrom(other.y);
            range.copyFrom(other.range);
            battery.copyFrom(other.battery);
            share.copyFrom(other.share);
            quietFrom.copyFrom(other.quietFrom);
            quietTo.copyFrom(other.quietTo);
            spokenToday.copyFrom(other.spokenToday);
            spokenEver.copyFrom(other.spokenEver);
            inRange.copyFrom(other.inRange);
        }

        boolean isFull() {
            return number >= MOST_HOUSES;
        }

        int add(int placeX, int placeY, int itsRange, int itsBattery, int itsShare) {
            int house = number;
            x.put(house, placeX);
            y.put(house, placeY);
            range.put(house, itsRange);
            battery.put(house, itsBattery);
            share.put(house, itsShare);
            quietFrom.put(house, NONE);
            quietTo.put(house, NONE);
            spokenToday.put(house, 0);
            spokenEver.put(house, 0);
            inRange.put(house, 0);
            for (int other = 0; other < house; other++) {
                noteRange(house, other);
                noteRange(other, house);
            }
            number = house + 1;
            return house;
        }

        private void noteRange(int house, int other) {
            if (distance(house, other) <= range.get(house) * range.get(house)) {
                inRange.join(house, other);
            }
        }

        /** The square of it, which orders houses just as well. */
        private int distance(int one, int other) {
            int across = x.get(one) - x.get(other);
            int along = y.get(one) - y.get(other);
            return across * across + along * along;
        }

        void addToBattery(int house, int more) {
            battery.put(house, Math.max(0, Math.min(MOST_BATTERY, battery.get(house) + more)));
        }

        void beginDay(int more) {
            for (int house = 0; house < number; house++) {
                addToBattery(house, more);
                spokenToday.put(house, 0);
            }
        }

        boolean isQuiet(int house, int minute) {
            int from = quietFrom.get(house);
            int to = quietTo.get(house);
            if (from == NONE) {
                return false;
            }
            return from <= to ? minute >= from && minute <= to : minute >= from || minute <= to;
        }

        int quietAt(int minute) {
            int houses = 0;
            for (int house = 0; house < number; house++) {
                if (isQuiet(house, minute)) {
                    houses |= bit(house);
                }
            }
            return houses;
        }

        int sharesOf(int houses) {
            int sum = 0;
            for (int house = 0; house < number; house++) {
                if (contains(houses, house)) {
                    sum += share.get(house);
                }
            }
            return sum;
        }

        int batterySum() {
            int sum = 0;
            for (int house = 0; house < number; house++) {
                sum += battery.get(house);
            }
            return sum;
        }

        int nearest(int house, int index) {
            for (int other = 0; other < number; other++) {
                if (other != house && nearerThan(other, house) == index) {
                    return other;
                }
            }
            return NONE;
        }

        /** How many houses are ahead of another one by their distance to a house. */
        private int nearerThan(int other, int house) {
            int limit = distance(house, other);
            int nearer = 0;
            for (int third = 0; third < number; third++) {
                int length = distance(house, third);
                if (third != house && (length < limit || length == limit && third < other)) {
                    nearer++;
                }
            }
            return nearer;
        }

        /** The least number of sendings from a house to another one. */
        int sendings(int from, int to) {
            int reached = bit(from);
            for (int sent = 0; sent < MOST_HOUSES; sent++) {
                if (contains(reached, to)) {
                    return sent;
                }
                reached = reached | rangesOf(reached);
            }
            return NONE;
        }

        private int rangesOf(int houses) {
            int reached = 0;
            for (int house = 0; house < number; house++) {
                if (contains(houses, house)) {
                    reached |= inRange.get(house);
                }
            }
            return reached;
        }
    }

    /** The news, with who knows them and their corrections. */
    private static final class Tidings {
        private int number = 0;
        private final Row author = new Row(MOST_NEWS);
        private final Row toldAt = new Row(MOST_NEWS);
        private final Row body = new Row(MOST_NEWS);
        private final Row correctedBody = new Row(MOST_NEWS);
        private final Row corrector = new Row(MOST_NEWS);
        private final Row correctedAt = new Row(MOST_NEWS);
        private final Row knowers = new Row(MOST_NEWS);
        private final Row correctionKnowers = new Row(MOST_NEWS);
        private final Row mostHops = new Row(MOST_NEWS);

        void clear() {
            number = 0;
        }

        void copyFrom(Tidings other) {
            number = other.number;
            author.copyFrom(other.author);
            toldAt.copyFrom(other.toldAt);
            body.copyFrom(other.body);
            correctedBody.copyFrom(other.correctedBody);
            corrector.copyFrom(other.corrector);
            correctedAt.copyFrom(other.correctedAt);
            knowers.copyFrom(other.knowers);
            correctionKnowers.copyFrom(other.correctionKnowers);
            mostHops.copyFrom(other.mostHops);
        }

        boolean isFull() {
            return number >= MOST_NEWS;
        }

        int add(int house, int time, int itsBody) {
            int news = number;
            author.put(news, house);
            toldAt.put(news, time);
            body.put(news, itsBody);
            correctedBody.put(news, NONE);
            corrector.put(news, NONE);
            correctedAt.put(news, NONE);
            knowers.put(news, bit(house));
            correctionKnowers.put(news, 0);
            mostHops.put(news, 0);
            number = news + 1;
            return news;
        }

        boolean isCorrected(int news) {
            return corrector.get(news) != NONE;
        }

        int correctedNumber() {
            int corrected = 0;
            for (int news = 0; news < number; news++) {
                if (isCorrected(news)) {
                    corrected++;
                }
            }
            return corrected;
        }

        /** Whether a house knows the news or its correction. */
        boolean isHeardOf(int news, int house) {
            return contains(knowers.get(news) | correctionKnowers.get(news), house);
        }

        int uncorrectedHouses(int news) {
            return isCorrected(news) ? knowers.get(news) & ~correctionKnowers.get(news) : 0;
        }

        int newsKnownAt(int house) {
            int known = 0;
            for (int news = 0; news < number; news++) {
                if (contains(knowers.get(news), house)) {
                    known |= bit(news);
                }
            }
            return known;
        }

        int correctionsKnownAt(int house) {
            int known = 0;
            for (int news = 0; news < number; news++) {
                if (contains(correctionKnowers.get(news), house)) {
                    known |= bit(news);
                }
            }
            return known;
        }

        int uncorrectedAt(int house) {
            int known = 0;
            for (int news = 0; news < number; news++) {
                if (contains(uncorrectedHouses(news), house)) {
                    known |= bit(news);
                }
            }
            return known;
        }
    }

    /** The entries of one kind (for news, or for corrections) in the queues of all houses. */
    private static final class Entries {
        private final Row sets = new Row(MOST_HOUSES);
        private final Row times = new Row(MOST_HOUSES * MOST_NEWS);

        void clear() {
            sets.fill(0);
        }

        void copyFrom(Entries other) {
            sets.copyFrom(other.sets);
            times.copyFrom(other.times);
        }

        void put(int house, int news, int time) {
            sets.join(house, news);
            times.put(cell(house, news), time);
        }

        void remove(int house, int news) {
            sets.leave(house, news);
        }

        int time(int house, int news) {
            return times.get(cell(house, news));
        }

        int size(int house) {
            return Integer.bitCount(sets.get(house));
        }

        int total() {
            int sum = 0;
            for (int house = 0; house < MOST_HOUSES; house++) {
                sum += size(house);
            }
            return sum;
        }

        /** The news of the first one among a house's entries for these news; the lowest of several. */
        int first(int house, int among) {
            int first = NONE;
            for (int news = 0; news < MOST_NEWS; news++) {
                boolean isAhead = first == NONE || time(house, news) < time(house, first);
                if (contains(among, news) && isAhead) {
                    first = news;
                }
            }
            return first;
        }

        /** The news of the house's entry at this place. */
        int at(int house, int index) {
            int left = sets.get(house);
            for (int passed = 0; passed < index; passed++) {
                left &= ~bit(first(house, left));
            }
            return first(house, left);
        }
    }

    /** The minutes in which a house spoke; the latest ones with their facts. */
    private static final class Journal {
        private int total = 0;
        private final Row facts = new Row(KEPT_MINUTES * FACTS_OF_A_MINUTE);

        void clear() {
            total = 0;
        }

        void copyFrom(Journal other) {
            total = other.total;
            facts.copyFrom(other.facts);
        }

        void add(int time, int house, int kind, int news, int heard, int got) {
            int start = total % KEPT_MINUTES * FACTS_OF_A_MINUTE;
            facts.put(start, time);
            facts.put(start + 1, house);
            facts.put(start + 2, kind);
            facts.put(start + 3, news);
            facts.put(start + 4, heard);
            facts.put(start + 5, got);
            total++;
        }

        int fact(int index, int what) {
            if (index >= KEPT_MINUTES || index >= total) {
                return NONE;
            }
            return facts.get((total - 1 - index) % KEPT_MINUTES * FACTS_OF_A_MINUTE + what);
        }
    }

    /** All that a saved state keeps. */
    private static final class Village {
        private int day = FIRST_DAY;
        private int time = 0;
        private int lot = FIRST_LOT;
        /** What all batteries ever lost by speaking and listening. */
        private int spent = 0;
        private final Row settings = new Row(SETTINGS);
        private final Homes homes = new Homes();
        private final Tidings tidings = new Tidings();
        private final Entries newsEntries = new Entries();
        private final Entries correctionEntries = new Entries();
        private final Row entryHops = new Row(MOST_HOUSES * MOST_NEWS);
        private final Row sources = new Row(MOST_HOUSES * MOST_NEWS);
        /** By house and news: the houses that the house is linked to by the news. */
        private final Row links = new Row(MOST_HOUSES * MOST_NEWS);
        private final Journal journal = new Journal();

        Village() {
            clear();
        }

        void clear() {
            day = FIRST_DAY;
            time = 0;
            lot = FIRST_LOT;
            spent = 0;
            for (int what = 0; what < SETTINGS; what++) {
                settings.put(what, element(FIRST_VALUES, what));
            }
            homes.clear();
            tidings.clear();
            newsEntries.clear();
            correctionEntries.clear();
            journal.clear();
        }

        void copyFrom(Village other) {
            day = other.day;
            time = other.time;
            lot = other.lot;
            spent = other.spent;
            settings.copyFrom(other.settings);
            homes.copyFrom(other.homes);
            tidings.copyFrom(other.tidings);
            newsEntries.copyFrom(other.newsEntries);
            correctionEntries.copyFrom(other.correctionEntries);
            entryHops.copyFrom(other.entryHops);
            sources.copyFrom(other.sources);
            links.copyFrom(other.links);
            journal.copyFrom(other.journal);
        }

        int minuteOfDay() {
            return day > 0 ? time % day : 0;
        }

        int addNews(int house, int body) {
            int news = tidings.add(house, time, body);
            for (int other = 0; other < MOST_HOUSES; other++) {
                sources.put(cell(other, news), NONE);
                links.put(cell(other, news), 0);
            }
            newsEntries.put(house, news, time);
            entryHops.put(cell(house, news), 0);
            return news;
        }

        void addCorrection(int house, int news, int body) {
            tidings.correctedBody.put(news, body);
            tidings.corrector.put(news, house);
            tidings.correctedAt.put(news, time);
            learnCorrection(house, news);
        }

        int owedBy(int house, int news) {
            int knowing = tidings.correctionKnowers.get(news);
            return contains(knowing, house) ? links.get(cell(house, news)) & ~knowing : 0;
        }

        /** The news whose corrections a house has in its queue and can send. */
        int sendableCorrections(int house) {
            int queued = correctionEntries.sets.get(house);
            if (queued == 0) {
                return 0;
            }
            int near = homes.inRange.get(house);
            int sendable = 0;
            for (int news = 0; news < tidings.number; news++) {
                if (contains(queued, news) && (owedBy(house, news) & near) != 0) {
                    sendable |= bit(news);
                }
            }
            return sendable;
        }

        void pass(int minutes) {
            for (int passed = 0; passed < minutes; passed++) {
                minute();
            }
        }

        void minute() {
            beginDay();
            int wishing = wishing();
            if (wishing != 0) {
                int house = drawnOf(wishing);
                int corrections = sendableCorrections(house);
                int queued = newsEntries.sets.get(house);
                int heard = spendOnAir(house);
                if (corrections != 0) {
                    sendCorrection(house, correctionEntries.first(house, corrections), heard);
                } else {
                    sendNews(house, newsEntries.first(house, queued), heard);
                }
            }
            time++;
        }

        /** The first step of a minute. */
        void beginDay() {
            if (time != 0 && minuteOfDay() == 0) {
                homes.beginDay(settings.get(CHARGE));
            }
        }

        int wishing() {
            int minute = minuteOfDay();
            int houses = 0;
            for (int house = 0; house < homes.number; house++) {
                boolean canSend = newsEntries.sets.get(house) != 0
                        || sendableCorrections(house) != 0;
                if (canSend && maySpeak(house, minute)) {
                    houses |= bit(house);
                }
            }
            return houses;
        }

        private boolean maySpeak(int house, int minute) {
            return homes.battery.get(house) >= settings.get(SPEAK)
                    && homes.spokenToday.get(house) < settings.get(QUOTA)
                    && !homes.isQuiet(house, minute);
        }

        int drawnOf(int houses) {
            int left = draw(homes.sharesOf(houses));
            for (int house = 0; house < homes.number; house++) {
                if (contains(houses, house)) {
                    left -= homes.share.get(house);
                    if (left < 0) {
                        return house;
                    }
                }
            }
            return NONE;
        }

        private int draw(int numbers) {
            lot = (LOT_FACTOR * lot + LOT_STEP) % LOTS;
            return numbers > 0 ? lot % numbers : 0;
        }

        /** Takes from the batteries what a speaker and those that hear it need; answers these. */
        private int spendOnAir(int speaker) {
            int need = settings.get(LISTEN);
            int minute = minuteOfDay();
            int heard = 0;
            for (int house = 0; house < homes.number; house++) {
                if (contains(homes.inRange.get(speaker), house)
                        && homes.battery.get(house) >= need && !homes.isQuiet(house, minute)) {
                    homes.battery.add(house, -need);
                    heard |= bit(house);
                }
            }
            homes.battery.add(speaker, -settings.get(SPEAK));
            homes.spokenToday.add(speaker, 1);
            homes.spokenEver.add(speaker, 1);
            spent += settings.get(SPEAK) + need * Integer.bitCount(heard);
            return heard;
        }

        private void sendNews(int speaker, int news, int heard) {
            int hops = entryHops.get(cell(speaker, news)) + 1;
            int got = 0;
            for (int house = 0; house < homes.number; house++) {
                if (contains(heard, house) && !tidings.isHeardOf(news, house)) {
                    getNews(house, news, speaker, hops);
                    got |= bit(house);
                }
            }
            newsEntries.remove(speaker, news);
            journal.add(time, speaker, 0, news, heard, got);
        }

        private void getNews(int house, int news, int speaker, int hops) {
            tidings.knowers.join(news, house);
            tidings.mostHops.put(news, Math.max(tidings.mostHops.get(news), hops));
            sources.put(cell(house, news), speaker);
            links.join(cell(house, news), speaker);
            links.join(cell(speaker, news), house);
            if (hops <= settings.get(HOPS)) {
                newsEntries.put(house, news, time);
                entryHops.put(cell(house, news), hops);
            }
        }

        private void sendCorrection(int speaker, int news, int heard) {
            int learned = 0;
            for (int house = 0; house < homes.number; house++) {
                if (contains(heard, house)
                        && !contains(tidings.correctionKnowers.get(news), house)) {
                    learnCorrection(house, news);
                    learned |= bit(house);
                }
            }
            correctionEntries.put(speaker, news, time + 1);
            dropSettledEntries(news);
            journal.add(time, speaker, 1, news, heard, learned);
        }

        private void learnCorrection(int house, int news) {
            newsEntries.remove(house, news);
            tidings.correctionKnowers.join(news, house);
            if (owedBy(house, news) != 0) {
                correctionEntries.put(house, news, time);
            }
        }

        /** Only what was sent in this minute can have come to be owed to no house any more. */
        private void dropSettledEntries(int news) {
            for (int house = 0; house < homes.number; house++) {
                if (owedBy(house, news) == 0) {
                    correctionEntries.remove(house, news);
                }
            }
        }
    }

    /** The text buffer, and its tokens one after another. */
    private static final class Text {
        private static final int END = 0;
        private static final int WORD = 1;
        private static final int NUMBER = 2;
        private static final int SEMICOLON = 3;
        private static final int NO_TOKEN = 4;
        /** Stands for all numbers that are too large for everything. */
        private static final int TOO_LARGE = 10000000;

        private final Row bytes = new Row(MOST_BYTES);
        private int length = 0;
        private int kind = END;
        private int start = 0;
        private int behind = 0;
        private int value = 0;

        void append(int lowByte) {
            bytes.put(length, lowByte & 255);
            length++;
        }

        void rewind() {
            behind = 0;
            step();
        }

        /** Goes to the next token. */
        void step() {
            start = behind;
            while (start < length && isBlank(bytes.get(start))) {
                start++;
            }
            behind = start;
            if (start >= length) {
                kind = END;
            } else if (isLetter(bytes.get(start))) {
                kind = WORD;
                skipLetters();
            } else if (isDigit(bytes.get(start))) {
                kind = NUMBER;
                readDigits();
            } else {
                kind = bytes.get(start) == ';' ? SEMICOLON : NO_TOKEN;
                behind++;
            }
        }

        boolean isWord(String word) {
            if (kind != WORD || behind - start != word.length()) {
                return false;
            }
            for (int index = 0; index < word.length(); index++) {
                if (word.charAt(index) != bytes.get(start + index)) {
                    return false;
                }
            }
            return true;
        }

        private void skipLetters() {
            while (behind < length && isLetter(bytes.get(behind))) {
                behind++;
            }
        }

        private void readDigits() {
            value = 0;
            while (behind < length && isDigit(bytes.get(behind))) {
                value = Math.min(value * 10 + bytes.get(behind) - '0', TOO_LARGE);
                behind++;
            }
        }

        private static boolean isBlank(int character) {
            return character == ' ' || character == '\n';
        }

        private static boolean isLetter(int character) {
            return character >= 'a' && character <= 'z';
        }

        private static boolean isDigit(int character) {
            return character >= '0' && character <= '9';
        }
    }

    /** Reads its text as a setup; behind an error it reads no more, and the village is of no use. */
    private static final class Reader {
        private final Text text = new Text();
        private int code = 0;
        private int position = NONE;

        /** Makes the village as the text tells; answers whether the text has no error. */
        boolean readSetup(Village village) {
            code = 0;
            position = NONE;
            village.clear();
            text.rewind();
            if (text.isWord("day")) {
                text.step();
                village.day = readNumber(LEAST_DAY, MOST_DAY);
                readSemicolon();
            }
            for (int read = 0; read < MOST_BYTES && code == 0 && text.kind != Text.END; read++) {
                if (text.isWord("house")) {
                    readHouse(village);
                } else if (text.isWord("set")) {
                    readSetting(village);
                } else if (text.isWord("seed")) {
                    text.step();
                    village.lot = readNumber(0, LOTS - 1);
                } else if (text.isWord("news")) {
                    readNews(village);
                } else {
                    fail(NOT_ALLOWED);
                }
                readSemicolon();
            }
            return code == 0;
        }

        private void readHouse(Village village) {
            if (village.homes.isFull()) {
                fail(TOO_MANY);
                return;
            }
            text.step();
            int x = readNumber(0, MOST_PLACE);
            int y = readNumber(0, MOST_PLACE);
            int range = readNumber(0, MOST_RANGE);
            int battery = readNumber(0, MOST_BATTERY);
            int share = readNumber(1, MOST_SHARE);
            int house = village.homes.add(x, y, range, battery, share);
            if (code == 0 && text.isWord("quiet")) {
                text.step();
                village.homes.quietFrom.put(house, readNumber(0, village.day - 1));
                village.homes.quietTo.put(house, readNumber(0, village.day - 1));
            }
        }

        private void readSetting(Village village) {
            text.step();
            int what = readNumber(0, SETTINGS - 1);
            int value = readNumber(element(LEAST_VALUES, what), element(MOST_VALUES, what));
            village.settings.put(what, value);
        }

        private void readNews(Village village) {
            if (village.tidings.isFull()) {
                fail(TOO_MANY);
                return;
            }
            text.step();
            int house = readNumber(0, village.homes.number - 1);
            int body = readNumber(0, MOST_BODY);
            village.addNews(house, body);
        }

        /** Reads a number of this range; behind an error it answers the least one. */
        private int readNumber(int least, int most) {
            if (code != 0) {
                return least;
            }
            if (text.kind != Text.NUMBER) {
                fail(NOT_ALLOWED);
                return least;
            }
            int value = text.value;
            if (value < least || value > most) {
                fail(OUT_OF_RANGE);
                return least;
            }
            text.step();
            return value;
        }

        private void readSemicolon() {
            if (code != 0) {
                return;
            }
            if (text.kind != Text.SEMICOLON) {
                fail(NOT_ALLOWED);
                return;
            }
            text.step();
        }

        private void fail(int errorCode) {
            code = errorCode;
            position = text.start;
        }
    }
}
