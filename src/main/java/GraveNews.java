import java.util.Arrays;

/** News for the dead: who hears what is read at the graves, what is owed to them, and what went wrong. */
public final class GraveNews {
    public static final int BAD = -1, NOT = -2, FULL = -3, NONE = -4, NULL = -11, CAST = -12, INDEX = -13, SIZE = -14;

    private static final int MOST_GRAVES = 10, MOST_NEWS = 12, MOST_READERS = 4, WINDS = 5;
    private static final int SIDE = 6, PLACES = 36, MOST_REACH = 9, MOST_WEIGHT = 9;
    private static final int LAST_GRAVE_YEAR = 89, LAST_YEAR = 99, YEARS_OWED = 8, YEARS_TILL_LATE = 9;
    private static final int MOST_READINGS = 9999, MOST_UNDOS = 10, MOST_WRONGS = 99;
    private static final int MOST_LETTERS = 160, FIRST_LETTER = 32, LAST_LETTER = 126, FIRST_FAULT = -20;
    private static final int MOST_TYPED_READINGS = 32, END = -1;
    private static final int SHEETS = 4, LANES = 4, MOST_ITEMS = 36, MOST_ROW = 12, ITEMS_A_READING = 3;
    private static final int MOST_LOTS = 30, MOST_A_YEAR = 30, MOST_STANDS = 3, LOWEST_31_BITS = 0x7fffffff;
    private static final int PLAIN = 0, DOUBLE = 1, INFANT = 2, EMPTY = 3, FOREIGN = 4, ENEMY = 5;
    private static final int LESSER_ROWS = 1, GREATER_COLUMNS = 2, GREATER_ROWS = 3, LESSER_COLUMNS = 4;

    private final Parish parish = new Parish();
    private final Parish kept = new Parish();
    private boolean isKept = false;
    private final Tape tape = new Tape();
    private final Graves typedGraves = new Graves();
    private final Papers typedPapers = new Papers();
    private final int[] typedReadings = new int[MOST_TYPED_READINGS];
    private final Sheet[] sheets = {new Sheet(), new Sheet(), new Sheet(), new Sheet()};
    private final int[] trialHeard = new int[MOST_GRAVES];
    private final Covers covers = new Covers();
    private int[] ways = new int[1];

    public GraveNews() {
    }

    // ---- 1 graves, news, readers

    public int grave(int kind, int place, int year) {
        if (kind < PLAIN || kind > ENEMY || !isPlace(place) || year < 0 || year > LAST_GRAVE_YEAR) return BAD;
        if (parish.graves.size >= MOST_GRAVES) return FULL;
        parish.graves.add(kind, place, year);
        return parish.graves.size - 1;
    }

    public int out() {
        if (parish.graves.size == 0) return NONE;
        parish.graves.size--;
        parish.undos = 0;
        return parish.graves.size;
    }

    public int reader(int reach) {
        if (reach < 0 || reach > MOST_REACH) return BAD;
        if (parish.readers >= MOST_READERS) return FULL;
        parish.reaches[parish.readers] = reach;
        parish.readers++;
        return parish.readers - 1;
    }

    public int news(int year, int ahead, int isShort) {
        if (year < 0 || year > LAST_YEAR || isShort < 0 || isShort > 1) return BAD;
        if (!isNewsSet(ahead) || !parish.papers.areNoLater(ahead, year)) return BAD;
        if (parish.papers.size >= MOST_NEWS) return FULL;
        parish.papers.add(year, ahead, 0, isShort);
        return parish.papers.size - 1;
    }

    public int bar(int news, int set) {
        if (!isNews(news) || set < 0 || set >= 1 << MOST_GRAVES) return BAD;
        int was = parish.papers.barred[news];
        parish.papers.barred[news] = set;
        return was;
    }

    public int wind(int v) {
        if (!isWind(v)) return BAD;
        int was = parish.windNow;
        parish.windNow = v;
        return was;
    }

    public int weight(int wind, int v) {
        if (!isWind(wind) || v < 0 || v > MOST_WEIGHT) return BAD;
        int was = parish.weights[wind];
        parish.weights[wind] = v;
        return was;
    }

    public int now(int year) {
        if (year < 0 || year > LAST_YEAR) return BAD;
        int was = parish.yearNow;
        parish.yearNow = year;
        return was;
    }

    public int told(int grave, int what) {
        if (!isGrave(grave)) return BAD;
        switch (what) {
            case 0: return parish.graves.kinds[grave];
            case 1: return parish.graves.places[grave];
            case 2: return parish.graves.years[grave];
            case 3: return parish.graves.heard[grave];
            case 4: return parish.owedTo(grave);
            case 5: return parish.arrearsOf(grave);
            case 6: return parish.graves.wrongs[grave];
            case 7: return parish.isLate(grave) ? 1 : 0;
            default: return BAD;
        }
    }

    public int of(int news, int what) {
        if (!isNews(news)) return BAD;
        switch (what) {
            case 0: return parish.papers.years[news];
            case 1: return parish.papers.ahead[news];
            case 2: return parish.papers.barred[news];
            case 3: return parish.papers.isShort[news];
            case 4: return parish.owedBy(news);
            case 5: return parish.heardOf(news);
            default: return BAD;
        }
    }

    public int type(int letter) {
        if (letter < FIRST_LETTER || letter > LAST_LETTER) return BAD;
        if (tape.size >= MOST_LETTERS) return FULL;
        tape.add(letter);
        return tape.size;
    }

    public int yard() {
        boolean stands = tape.takeYard(typedGraves);
        tape.size = 0;
        if (!stands) return tape.faultHere();
        parish.graves.become(typedGraves);
        parish.undos = 0;
        return parish.graves.size;
    }

    public int paper() {
        boolean stands = tape.takePaper(typedPapers);
        tape.size = 0;
        if (!stands) return tape.faultHere();
        parish.papers.become(typedPapers);
        parish.graves.forget();
        parish.undos = 0;
        return parish.papers.size;
    }

    public int day() {
        int typed = tape.takeDay(typedReadings, parish.readers, parish.papers.size);
        tape.size = 0;
        if (typed < 0) return tape.faultHere();
        int clean = 0;
        for (int k = 0; k < typed && k < MOST_TYPED_READINGS && parish.readings < MOST_READINGS; k++) {
            int reading = typedReadings[k];
            if (parish.hold(Tape.readerIn(reading), Tape.placeIn(reading), Tape.newsIn(reading))) clean++;
        }
        return clean;
    }

    public int count(int what) {
        switch (what) {
            case 0: return parish.graves.size;
            case 1: return parish.papers.size;
            case 2: return parish.readers;
            case 3: return parish.readings;
            case 4: return parish.allArrears();
            case 5: return parish.paidGraves();
            case 6: return parish.lateGraves();
            case 7: return parish.undos;
            case 8: return parish.windNow;
            case 9: return parish.graves.allWrongs();
            default: return BAD;
        }
    }

    // ---- 2 readings

    public int hears(int reader, int place) {
        if (!isReader(reader) || !isPlace(place)) return BAD;
        return parish.hearers(reader, place, parish.windNow);
    }

    public int wronged(int reader, int place, int news) {
        if (!isReading(reader, place, news)) return BAD;
        return parish.wrongedOf(parish.hearers(reader, place, parish.windNow), news, parish.graves.heard);
    }

    public int read(int reader, int place, int news) {
        if (!isReading(reader, place, news)) return BAD;
        if (parish.readings >= MOST_READINGS) return FULL;
        parish.hold(reader, place, news);
        return parish.hearers(reader, place, parish.windNow);
    }

    public int undo() {
        if (parish.undos == 0) return NONE;
        parish.unhold();
        return parish.undos;
    }

    public int lots(int n) {
        if (n < 1 || n > MOST_LOTS) return BAD;
        if (parish.readers == 0 || parish.papers.size == 0) return NOT;
        if (parish.readings + n > MOST_READINGS) return FULL;
        int clean = 0;
        for (int k = 0; k < n; k++) {
            parish.windNow = parish.drawn(WINDS);
            int reader = parish.drawn(parish.readers);
            int place = parish.drawn(PLACES);
            if (parish.hold(reader, place, parish.drawn(parish.papers.size))) clean++;
        }
        return clean;
    }

    public int seed(int v) {
        if (v < 0) return BAD;
        int was = parish.draw;
        parish.draw = v;
        return was;
    }

    public int stand(int reader, int news) {
        if (!isReader(reader) || !isNews(news)) return BAD;
        int owed = parish.inArrearsOf(news);
        int best = NONE;
        int most = 0;
        for (int place = 0; place < PLACES; place++) {
            int hearing = parish.hearers(reader, place, parish.windNow);
            int paid = Integer.bitCount(hearing & owed);
            if (paid > most && parish.wrongedOf(hearing, news, parish.graves.heard) == 0) {
                most = paid;
                best = place;
            }
        }
        return best;
    }

    public int cover(int reader, int news, int i) {
        if (!isReader(reader) || !isNews(news) || i < -1 || i >= MOST_STANDS) return BAD;
        int owed = parish.inArrearsOf(news);
        covers.clear();
        for (int place = 0; place < PLACES; place++) {
            int hearing = parish.hearers(reader, place, parish.windNow);
            if ((hearing & owed) == 0) continue;
            if (parish.wrongedOf(hearing, news, parish.graves.heard) == 0) covers.add(place, hearing);
        }
        if (!covers.search(owed)) return NONE;
        if (i == -1) return covers.found;
        return i < covers.found ? covers.row[i] : NONE;
    }

    public int orders(int i) {
        if (i < -1 || i >= MOST_NEWS) return BAD;
        if (i == -1) return parish.papers.orders > 0 ? parish.papers.orders : countOrders();
        return i < parish.papers.size ? parish.papers.inLastOrder(i) : NONE;
    }

    public int years(int n, int what) {
        if (n < 1 || n > MOST_A_YEAR || what < 0 || what > 1) return BAD;
        if (what == 0) return (parish.allArrears() + n - 1) / n;
        return parish.firstPaidLate(n);
    }

    public int chance(int reader, int place, int set, int part) {
        if (!isReader(reader) || !isPlace(place) || !isGraveSet(set) || part < 0 || part > 1) return BAD;
        int below = parish.allWeights();
        if (below == 0) return NOT;
        int above = parish.weightsOfHearing(reader, place, set);
        return part == 0 ? inLowestTerms(above, below) : inLowestTerms(below, above);
    }

    public int likeliest(int reader, int set) {
        if (!isReader(reader) || !isGraveSet(set)) return BAD;
        if (parish.allWeights() == 0) return NOT;
        int best = 0;
        int most = 0;
        for (int place = 0; place < PLACES; place++) {
            int above = parish.weightsOfHearing(reader, place, set);
            if (above > most) {
                most = above;
                best = place;
            }
        }
        return best;
    }

    // ---- 3 what the dead know

    public int more(int grave, int other) {
        if (!isGrave(grave) || !isGrave(other)) return BAD;
        return parish.graves.heard[grave] & ~parish.graves.heard[other];
    }

    public int sooner(int grave, int what) {
        if (!isGrave(grave) || what < 0 || what > 1) return BAD;
        int pairs = 0;
        for (int a = 0; a < parish.papers.size; a++) {
            for (int b = 0; b < parish.papers.size; b++) {
                if (!parish.heardInWrongOrder(grave, a, b)) continue;
                if (what == 1) return 100 * a + b;
                pairs++;
            }
        }
        return what == 1 ? NONE : pairs;
    }

    public long hidden(int reader, int set) {
        if (!isReader(reader) || !isGraveSet(set)) return BAD;
        long places = 0;
        for (int place = 0; place < PLACES; place++) {
            if ((parish.hearers(reader, place, parish.windNow) & set) == 0) places |= 1L << place;
        }
        return places;
    }

    public int alone(int reader, int grave) {
        if (!isReader(reader) || !isGrave(grave)) return BAD;
        for (int place = 0; place < PLACES; place++) {
            if (parish.hearers(reader, place, parish.windNow) == 1 << grave) return place;
        }
        return NONE;
    }

    public int image() {
        kept.become(parish);
        isKept = true;
        return 1;
    }

    public int restore() {
        if (!isKept) return NONE;
        parish.become(kept);
        return 1;
    }

    // ---- 4 sheets

    public int which(int set, int sheet, int lane, int from, int n) {
        if (!isNewsSet(set)) return BAD;
        int refused = refusalOfReadings(sheet, lane, from, n);
        if (refused != 0) return refused;
        long[] items = sheets[sheet].items;
        Arrays.fill(trialHeard, 0);
        for (int k = 0; k < n; k++) {
            int at = from + ITEMS_A_READING * k;
            int hearing = parish.hearers((int) items[at], (int) items[at + 1], parish.windNow);
            noteHeard(hearing, (int) items[at + 2], trialHeard);
        }
        int graves = 0;
        for (int grave = 0; grave < parish.graves.size; grave++) {
            if (trialHeard[grave] == set) graves |= 1 << grave;
        }
        return graves;
    }

    public int judged(int sheet, int lane, int from, int n) {
        int refused = refusalOfReadings(sheet, lane, from, n);
        if (refused != 0) return refused;
        long[] items = sheets[sheet].items;
        System.arraycopy(parish.graves.heard, 0, trialHeard, 0, MOST_GRAVES);
        for (int k = 0; k < n; k++) {
            int at = from + ITEMS_A_READING * k;
            int news = (int) items[at + 2];
            int hearing = parish.hearers((int) items[at], (int) items[at + 1], parish.windNow);
            if (parish.wrongedOf(hearing, news, trialHeard) != 0) return k;
            noteHeard(hearing, news, trialHeard);
        }
        return NONE;
    }

    public int film(int sheet, int lane, int from) {
        int refused = refusalOfItems(sheet, lane, from, parish.graves.size);
        if (refused != 0) return refused;
        for (int grave = 0; grave < parish.graves.size; grave++) {
            sheets[sheet].put(from + grave, parish.arrearsOf(grave));
        }
        return parish.graves.size;
    }

    public int sheet(int sheet, int lane, int n) {
        if (!isSheet(sheet) || !isLane(lane) || n > MOST_ITEMS) return BAD;
        if (n < 0) return SIZE;
        sheets[sheet].renew(lane, n);
        return n;
    }

    public int drop(int sheet) {
        if (!isSheet(sheet)) return BAD;
        if (!sheets[sheet].holds) return NULL;
        sheets[sheet].holds = false;
        return sheets[sheet].size;
    }

    public int item(int sheet, int lane, int i, long v) {
        int refused = refusalOfItems(sheet, lane, i, 1);
        if (refused != 0) return refused;
        sheets[sheet].put(i, v);
        return 1;
    }

    public int copy(int from, int i, int to, int j, int n) {
        if (!isSheet(from) || !isSheet(to)) return BAD;
        Sheet source = sheets[from];
        Sheet target = sheets[to];
        if (!source.holds || !target.holds) return NULL;
        if (source.lane != target.lane) return CAST;
        if (!source.reaches(i, n) || !target.reaches(j, n)) return INDEX;
        System.arraycopy(source.items, i, target.items, j, n);
        return n;
    }

    // ---- what a call may name

    private static boolean has(int set, int i) {
        return (set >> i & 1) != 0;
    }

    private static boolean isPlace(long place) {
        return place >= 0 && place < PLACES;
    }

    private static boolean isWind(int wind) {
        return wind >= 0 && wind < WINDS;
    }

    private static boolean isSheet(int sheet) {
        return sheet >= 0 && sheet < SHEETS;
    }

    private static boolean isLane(int lane) {
        return lane >= 0 && lane < LANES;
    }

    private boolean isGrave(int grave) {
        return grave >= 0 && grave < parish.graves.size;
    }

    private boolean isReader(long reader) {
        return reader >= 0 && reader < parish.readers;
    }

    private boolean isNews(long news) {
        return news >= 0 && news < parish.papers.size;
    }

    private boolean isGraveSet(int set) {
        return set >= 0 && set < 1 << parish.graves.size;
    }

    private boolean isNewsSet(int set) {
        return set >= 0 && set < 1 << parish.papers.size;
    }

    /** The three are longs, so that an item of a long row is not cut to one that names something. */
    private boolean isReading(long reader, long place, long news) {
        return isReader(reader) && isPlace(place) && isNews(news);
    }

    /** 0, if a SHEET, taken as a row of a LANE, has n items from one on. */
    private int refusalOfItems(int sheet, int lane, int from, int n) {
        if (!isSheet(sheet) || !isLane(lane)) return BAD;
        if (!sheets[sheet].holds) return NULL;
        if (sheets[sheet].lane != lane) return CAST;
        return sheets[sheet].reaches(from, n) ? 0 : INDEX;
    }

    /** 0, if a SHEET, taken as a row of a LANE, has n READINGS from one item on. */
    private int refusalOfReadings(int sheet, int lane, int from, int n) {
        if (n < 1 || n > MOST_ROW) return BAD;
        int refused = refusalOfItems(sheet, lane, from, ITEMS_A_READING * n);
        if (refused != 0) return refused;
        long[] items = sheets[sheet].items;
        for (int at = from; at < from + ITEMS_A_READING * n; at += ITEMS_A_READING) {
            if (!isReading(items[at], items[at + 1], items[at + 2])) return NOT;
        }
        return 0;
    }

    private static void noteHeard(int hearing, int news, int[] heard) {
        for (int grave = 0; grave < heard.length; grave++) {
            if (has(hearing, grave)) heard[grave] |= 1 << news;
        }
    }

    /** The row of ways is kept for the next count, as the room for rows is small. */
    private int countOrders() {
        int sets = 1 << parish.papers.size;
        if (ways.length < sets) ways = new int[sets];
        parish.papers.orders = parish.papers.countInto(ways);
        return parish.papers.orders;
    }

    /** One part of a fraction; divisors are tried from above, so that the first that fits is the greatest. */
    private static int inLowestTerms(int part, int other) {
        for (int d = Math.max(part, other); d > 1; d--) {
            if (part % d == 0 && other % d == 0) return part / d;
        }
        return part;
    }

    /** GRAVES by rows, with what they HEARD. */
    private static final class Graves {
        int size = 0;
        final int[] kinds = new int[MOST_GRAVES];
        final int[] places = new int[MOST_GRAVES];
        final int[] years = new int[MOST_GRAVES];
        final int[] heard = new int[MOST_GRAVES];
        final int[] wrongs = new int[MOST_GRAVES];
        /** The READING in which each HEARD each NEWS for the first time, a GRAVE behind the other. */
        final int[] since = new int[MOST_GRAVES * MOST_NEWS];

        void add(int kind, int place, int year) {
            if (size >= MOST_GRAVES) return;
            kinds[size] = kind;
            places[size] = place;
            years[size] = year;
            heard[size] = 0;
            wrongs[size] = 0;
            size++;
        }

        void forget() {
            Arrays.fill(heard, 0);
            Arrays.fill(wrongs, 0);
        }

        int allWrongs() {
            int all = 0;
            for (int g = 0; g < size; g++) all += wrongs[g];
            return all;
        }

        void become(Graves other) {
            size = other.size;
            System.arraycopy(other.kinds, 0, kinds, 0, MOST_GRAVES);
            System.arraycopy(other.places, 0, places, 0, MOST_GRAVES);
            System.arraycopy(other.years, 0, years, 0, MOST_GRAVES);
            System.arraycopy(other.heard, 0, heard, 0, MOST_GRAVES);
            System.arraycopy(other.wrongs, 0, wrongs, 0, MOST_GRAVES);
            System.arraycopy(other.since, 0, since, 0, MOST_GRAVES * MOST_NEWS);
        }
    }

    /** NEWS by rows. */
    private static final class Papers {
        int size = 0;
        /** How many ORDERS there are, once they were counted; 0 till then. */
        int orders = 0;
        final int[] years = new int[MOST_NEWS];
        final int[] ahead = new int[MOST_NEWS];
        final int[] barred = new int[MOST_NEWS];
        final int[] isShort = new int[MOST_NEWS];

        void add(int year, int aheadOfIt, int barredFrom, int shortOrNot) {
            if (size >= MOST_NEWS) return;
            years[size] = year;
            ahead[size] = aheadOfIt;
            barred[size] = barredFrom;
            isShort[size] = shortOrNot;
            size++;
            orders = 0;
        }

        void clear() {
            size = 0;
            orders = 0;
        }

        boolean areNoLater(int set, int year) {
            for (int n = 0; n < size; n++) {
                if (has(set, n) && years[n] > year) return false;
            }
            return true;
        }

        int ofYear(int year) {
            int set = 0;
            for (int n = 0; n < size; n++) {
                if (years[n] == year) set |= 1 << n;
            }
            return set;
        }

        boolean canFollow(int n, int set) {
            return !has(set, n) && (ahead[n] & ~set) == 0;
        }

        /** In how many ways each set of NEWS can be read ahead of all others; the last set is that of all NEWS. */
        int countInto(int[] ways) {
            int sets = 1 << size;
            if (ways.length < sets) return 0;
            Arrays.fill(ways, 0);
            ways[0] = 1;
            for (int set = 0; set < sets; set++) {
                if (ways[set] == 0) continue;
                for (int n = 0; n < size; n++) {
                    if (canFollow(n, set)) ways[set | 1 << n] += ways[set];
                }
            }
            return ways[sets - 1];
        }

        int inLastOrder(int i) {
            int set = 0;
            int next = NONE;
            for (int k = 0; k <= i && k < size; k++) {
                next = greatestBehind(set);
                if (next < 0) return NONE;
                set |= 1 << next;
            }
            return next;
        }

        int greatestBehind(int set) {
            for (int n = size - 1; n >= 0; n--) {
                if (canFollow(n, set)) return n;
            }
            return NONE;
        }

        void become(Papers other) {
            size = other.size;
            orders = other.orders;
            System.arraycopy(other.years, 0, years, 0, MOST_NEWS);
            System.arraycopy(other.ahead, 0, ahead, 0, MOST_NEWS);
            System.arraycopy(other.barred, 0, barred, 0, MOST_NEWS);
            System.arraycopy(other.isShort, 0, isShort, 0, MOST_NEWS);
        }
    }

    /** All that an IMAGE keeps. */
    private static final class Parish {
        final Graves graves = new Graves();
        final Papers papers = new Papers();
        int readers = 0;
        final int[] reaches = new int[MOST_READERS];
        int windNow = 0;
        final int[] weights = {1, 1, 1, 1, 1};
        int yearNow = 0;
        int draw = 1;
        int readings = 0;
        /** The latest READINGS that may be UNDONE: their NEWS, who HEARD it for the first time, whose count rose. */
        int undos = 0;
        final int[] undoNews = new int[MOST_UNDOS];
        final int[] undoHeard = new int[MOST_UNDOS];
        final int[] undoWronged = new int[MOST_UNDOS];

        void become(Parish other) {
            graves.become(other.graves);
            papers.become(other.papers);
            readers = other.readers;
            System.arraycopy(other.reaches, 0, reaches, 0, MOST_READERS);
            windNow = other.windNow;
            System.arraycopy(other.weights, 0, weights, 0, WINDS);
            yearNow = other.yearNow;
            draw = other.draw;
            readings = other.readings;
            undos = other.undos;
            System.arraycopy(other.undoNews, 0, undoNews, 0, MOST_UNDOS);
            System.arraycopy(other.undoHeard, 0, undoHeard, 0, MOST_UNDOS);
            System.arraycopy(other.undoWronged, 0, undoWronged, 0, MOST_UNDOS);
        }

        // who hears

        int hearers(int reader, int place, int wind) {
            int set = 0;
            for (int g = 0; g < graves.size; g++) {
                int far = farFrom(place, graves.places[g], wind);
                if (kindHears(graves.kinds[g], far, reaches[reader], wind)) set |= 1 << g;
            }
            return set;
        }

        static int farFrom(int place, int grave, int wind) {
            int down = grave / SIDE - place / SIDE;
            int right = grave % SIDE - place % SIDE;
            return Math.abs(down) + Math.abs(right) - Integer.compare(alongWind(wind, down, right), 0);
        }

        /** Above 0, if the WIND goes that way; below 0, if it comes from there. */
        static int alongWind(int wind, int down, int right) {
            switch (wind) {
                case LESSER_ROWS: return -down;
                case GREATER_COLUMNS: return right;
                case GREATER_ROWS: return down;
                case LESSER_COLUMNS: return -right;
                default: return 0;
            }
        }

        static boolean kindHears(int kind, int far, int reach, int wind) {
            switch (kind) {
                case DOUBLE: return far <= reach - 1;
                case EMPTY: return false;
                case FOREIGN: return wind != GREATER_ROWS && far <= reach - 1;
                default: return far <= reach;
            }
        }

        // what is owed

        boolean isOwed(int grave, int news) {
            if (has(papers.barred[news], grave)) return false;
            int behind = papers.years[news] - graves.years[grave];
            if (behind < 0 || behind > YEARS_OWED) return false;
            switch (graves.kinds[grave]) {
                case INFANT: return papers.isShort[news] == 1;
                case EMPTY: return false;
                case FOREIGN: return behind != 0;
                case ENEMY: return papers.isShort[news] == 1 || behind == 0;
                default: return true;
            }
        }

        int owedAmong(int grave, int set) {
            int owed = 0;
            for (int n = 0; n < papers.size; n++) {
                if (has(set, n) && isOwed(grave, n)) owed |= 1 << n;
            }
            return owed;
        }

        int owedTo(int grave) {
            return owedAmong(grave, (1 << papers.size) - 1);
        }

        int arrearsOf(int grave) {
            return owedAmong(grave, ((1 << papers.size) - 1) & ~graves.heard[grave]);
        }

        int owedBy(int news) {
            int set = 0;
            for (int g = 0; g < graves.size; g++) {
                if (isOwed(g, news)) set |= 1 << g;
            }
            return set;
        }

        int heardOf(int news) {
            int set = 0;
            for (int g = 0; g < graves.size; g++) {
                if (has(graves.heard[g], news)) set |= 1 << g;
            }
            return set;
        }

        int inArrearsOf(int news) {
            return owedBy(news) & ~heardOf(news);
        }

        boolean isLate(int grave) {
            int arrears = arrearsOf(grave);
            for (int n = 0; n < papers.size; n++) {
                if (has(arrears, n) && yearNow - papers.years[n] >= YEARS_TILL_LATE) return true;
            }
            return false;
        }

        int allArrears() {
            int all = 0;
            for (int g = 0; g < graves.size; g++) all += Integer.bitCount(arrearsOf(g));
            return all;
        }

        int paidGraves() {
            int paid = 0;
            for (int g = 0; g < graves.size; g++) {
                if (arrearsOf(g) == 0) paid++;
            }
            return paid;
        }

        int lateGraves() {
            int late = 0;
            for (int g = 0; g < graves.size; g++) {
                if (isLate(g)) late++;
            }
            return late;
        }

        /** All ARREARS of one YEAR fall behind those of the YEARS ahead of it, so only how many these were is needed. */
        int firstPaidLate(int aYear) {
            int paid = 0;
            for (int year = 0; year <= LAST_YEAR; year++) {
                int set = papers.ofYear(year);
                if (set == 0) continue;
                for (int g = 0; g < graves.size; g++) {
                    int arrears = Integer.bitCount(arrearsOf(g) & set);
                    if (arrears == 0) continue;
                    paid += arrears;
                    if (aYear > 0 && yearNow + (paid - 1) / aYear - year >= YEARS_TILL_LATE) return g;
                }
            }
            return NONE;
        }

        // readings

        int wrongedOf(int hearing, int news, int[] heard) {
            int set = 0;
            for (int g = 0; g < graves.size; g++) {
                if (has(hearing, g) && isWrong(g, news, heard[g])) set |= 1 << g;
            }
            return set;
        }

        boolean isWrong(int grave, int news, int heard) {
            if (has(papers.barred[news], grave) || has(heard, news)) return true;
            return owedAmong(grave, papers.ahead[news] & ~heard) != 0;
        }

        /** A READING: whether it was CLEAN. */
        boolean hold(int reader, int place, int news) {
            int hearing = hearers(reader, place, windNow);
            int wrong = wrongedOf(hearing, news, graves.heard);
            int first = 0;
            int rose = 0;
            for (int g = 0; g < graves.size; g++) {
                if (has(hearing, g) && !has(graves.heard[g], news)) {
                    graves.heard[g] |= 1 << news;
                    graves.since[g * MOST_NEWS + news] = readings;
                    first |= 1 << g;
                }
                if (has(wrong, g) && graves.wrongs[g] < MOST_WRONGS) {
                    graves.wrongs[g]++;
                    rose |= 1 << g;
                }
            }
            readings++;
            keepUndo(news, first, rose);
            return wrong == 0;
        }

        void keepUndo(int news, int first, int rose) {
            if (undos == MOST_UNDOS) {
                undos--;
                System.arraycopy(undoNews, 1, undoNews, 0, undos);
                System.arraycopy(undoHeard, 1, undoHeard, 0, undos);
                System.arraycopy(undoWronged, 1, undoWronged, 0, undos);
            }
            undoNews[undos] = news;
            undoHeard[undos] = first;
            undoWronged[undos] = rose;
            undos++;
        }

        void unhold() {
            if (undos <= 0) return;
            undos--;
            readings--;
            for (int g = 0; g < graves.size; g++) {
                if (has(undoHeard[undos], g)) graves.heard[g] &= ~(1 << undoNews[undos]);
                if (has(undoWronged[undos], g)) graves.wrongs[g]--;
            }
        }

        int drawn(int many) {
            draw = (draw * 1103515245 + 12345) & LOWEST_31_BITS;
            return many > 0 ? (draw >> 16) % many : 0;
        }

        boolean heardInWrongOrder(int grave, int a, int b) {
            int heard = graves.heard[grave];
            if (!has(papers.ahead[b], a) || !has(heard, a) || !has(heard, b)) return false;
            return graves.since[grave * MOST_NEWS + b] < graves.since[grave * MOST_NEWS + a];
        }

        // winds

        int allWeights() {
            int all = 0;
            for (int wind = 0; wind < WINDS; wind++) all += weights[wind];
            return all;
        }

        int weightsOfHearing(int reader, int place, int set) {
            int all = 0;
            for (int wind = 0; wind < WINDS; wind++) {
                if ((set & ~hearers(reader, place, wind)) == 0) all += weights[wind];
            }
            return all;
        }
    }

    /** PLACES of which a COVER may be made, each with the GRAVES that HEAR there; and the COVER that was found. */
    private static final class Covers {
        int size = 0;
        final int[] places = new int[PLACES];
        final int[] hearing = new int[PLACES];
        int found = 0;
        final int[] row = new int[MOST_STANDS];

        void clear() {
            size = 0;
        }

        void add(int place, int graves) {
            if (size >= PLACES) return;
            places[size] = place;
            hearing[size] = graves;
            size++;
        }

        boolean search(int owed) {
            if (owed == 0) return isFound(0, 0, 0, 0);
            return searchOne(owed) || searchTwo(owed) || searchThree(owed);
        }

        boolean isFound(int many, int i, int j, int k) {
            found = many;
            if (many > 0) row[0] = places[i];
            if (many > 1) row[1] = places[j];
            if (many > 2) row[2] = places[k];
            return true;
        }

        boolean searchOne(int owed) {
            for (int i = 0; i < size; i++) {
                if ((owed & ~hearing[i]) == 0) return isFound(1, i, 0, 0);
            }
            return false;
        }

        /** Who HEARS at two of the PLACES is WRONGED at the later one, so no two may share anybody. */
        boolean searchTwo(int owed) {
            for (int i = 0; i < size; i++) {
                int left = owed & ~hearing[i];
                for (int j = i + 1; j < size; j++) {
                    if ((hearing[i] & hearing[j]) == 0 && (left & ~hearing[j]) == 0) return isFound(2, i, j, 0);
                }
            }
            return false;
        }

        boolean searchThree(int owed) {
            for (int i = 0; i < size; i++) {
                for (int j = i + 1; j < size; j++) {
                    if ((hearing[i] & hearing[j]) != 0) continue;
                    int both = hearing[i] | hearing[j];
                    for (int k = j + 1; k < size; k++) {
                        if ((both & hearing[k]) == 0 && (owed & ~(both | hearing[k])) == 0) return isFound(3, i, j, k);
                    }
                }
            }
            return false;
        }
    }

    /** THE TAPE, and what its letters say; where it goes wrong, it stops at the FAULT. */
    private static final class Tape {
        int size = 0;
        int at = 0;
        final byte[] letters = new byte[MOST_LETTERS];

        void add(int letter) {
            if (size >= MOST_LETTERS) return;
            letters[size] = (byte) letter;
            size++;
        }

        int faultHere() {
            return FIRST_FAULT - at;
        }

        boolean takeYard(Graves yard) {
            at = 0;
            yard.size = 0;
            for (int k = 0; k < MOST_GRAVES; k++) {
                if (!takeGrave(yard)) return false;
                if (nextLetter() == END) return true;
                if (k == MOST_GRAVES - 1 || !takes(',')) return false;
            }
            return false;
        }

        private boolean takeGrave(Graves yard) {
            int kind = kindOf(nextLetter());
            if (kind < 0) return false;
            at++;
            int row = takeFigure(SIDE);
            if (row < 0) return false;
            int column = takeFigure(SIDE);
            if (column < 0 || !takes('@')) return false;
            int year = takeNumber(LAST_GRAVE_YEAR);
            if (year < 0) return false;
            yard.add(kind, SIDE * row + column, year);
            return true;
        }

        static int kindOf(int letter) {
            switch (letter) {
                case 'p': return PLAIN;
                case 'd': return DOUBLE;
                case 'i': return INFANT;
                case 'e': return EMPTY;
                case 'f': return FOREIGN;
                case 'n': return ENEMY;
                default: return -1;
            }
        }

        boolean takePaper(Papers paper) {
            at = 0;
            paper.clear();
            for (int k = 0; k < MOST_NEWS; k++) {
                if (!takeNews(paper)) return false;
                if (nextLetter() == END) return true;
                if (k == MOST_NEWS - 1 || !takes(',')) return false;
            }
            return false;
        }

        private boolean takeNews(Papers paper) {
            int year = takeNumber(LAST_YEAR);
            if (year < 0) return false;
            int isShort = takes('s') ? 1 : 0;
            int ahead = takes('<') ? takeAhead(paper, year) : 0;
            if (ahead < 0) return false;
            int barred = takes('!') ? takeBarred() : 0;
            if (barred < 0) return false;
            paper.add(year, ahead, barred, isShort);
            return true;
        }

        /** Stops at the first letter that is none of AHEAD: if nothing else may stand there, that is the FAULT. */
        private int takeAhead(Papers paper, int year) {
            int set = 0;
            for (int k = 0; k < MOST_NEWS; k++) {
                int n = nextLetter() - 'a';
                if (n < 0 || n >= paper.size || has(set, n) || paper.years[n] > year) break;
                set |= 1 << n;
                at++;
            }
            return set == 0 ? -1 : set;
        }

        private int takeBarred() {
            int set = 0;
            for (int k = 0; k < MOST_GRAVES; k++) {
                int g = nextLetter() - '0';
                if (g < 0 || g >= MOST_GRAVES || has(set, g)) break;
                set |= 1 << g;
                at++;
            }
            return set == 0 ? -1 : set;
        }

        /** How many READINGS; -1, if it stopped at a FAULT. */
        int takeDay(int[] readings, int readers, int news) {
            at = 0;
            for (int k = 0; k < readings.length; k++) {
                readings[k] = takeReading(readers, news);
                if (readings[k] < 0) return -1;
                if (nextLetter() == END) return k + 1;
                if (!takes(';')) return -1;
            }
            return -1;
        }

        private int takeReading(int readers, int news) {
            int reader = takeFigure(readers);
            if (reader < 0) return -1;
            int row = takeFigure(SIDE);
            if (row < 0) return -1;
            int column = takeFigure(SIDE);
            if (column < 0) return -1;
            int n = nextLetter() - 'a';
            if (n < 0 || n >= news) return -1;
            at++;
            return (reader * PLACES + SIDE * row + column) * MOST_NEWS + n;
        }

        static int readerIn(int reading) {
            return reading / MOST_NEWS / PLACES;
        }

        static int placeIn(int reading) {
            return reading / MOST_NEWS % PLACES;
        }

        static int newsIn(int reading) {
            return reading % MOST_NEWS;
        }

        /** The next letter that is no blank, or END; stops at it. */
        private int nextLetter() {
            for (; at < size; at++) {
                if (letters[at] != ' ') return letters[at];
            }
            return END;
        }

        private boolean takes(int letter) {
            if (nextLetter() != letter) return false;
            at++;
            return true;
        }

        /** A figure below a number; -1, if there is none. */
        private int takeFigure(int below) {
            int figure = nextLetter() - '0';
            if (figure < 0 || figure >= below) return -1;
            at++;
            return figure;
        }

        /** A number of at most so much; -1, if there is none. It is kept small, however many figures it has. */
        private int takeNumber(int most) {
            nextLetter();
            int first = at;
            int number = 0;
            for (; at < size && letters[at] >= '0' && letters[at] <= '9'; at++) {
                number = Math.min(number * 10 + letters[at] - '0', 1000);
            }
            if (at > first && number <= most) return number;
            at = first;
            return -1;
        }
    }

    /** A row of a LANE, or nothing. Items are held as longs that were cut to what the LANE can hold. */
    private static final class Sheet {
        boolean holds = false;
        int lane = 0;
        int size = 0;
        final long[] items = new long[MOST_ITEMS];

        void renew(int newLane, int newSize) {
            holds = true;
            lane = newLane;
            size = newSize;
            Arrays.fill(items, 0L);
        }

        boolean reaches(int from, int n) {
            return from >= 0 && n >= 0 && from <= size - n;
        }

        void put(int i, long v) {
            if (i < 0 || i >= size) return;
            items[i] = cut(v);
        }

        private long cut(long v) {
            switch (lane) {
                case 0: return (byte) v;
                case 1: return (short) v;
                case 2: return (int) v;
                default: return v;
            }
        }
    }
}
