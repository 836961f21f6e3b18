import java.util.ArrayDeque;
import java.util.ArrayList;
import java.util.Arrays;
import java.util.Deque;
import java.util.LinkedHashMap;
import java.util.List;
import java.util.Map;
import java.util.Random;

/**
 * Mixed runs against a slow second writing of the document: lists and maps, whole copies for what is undone and
 * for images, kinds as classes, searches by trying everything.
 */
public final class ModelTest {
    private static final int RUNS = 5000, RUNS_NEARLY_FULL = 12;
    private static final int MOST_CALLS = 512, MOST_CALLS_A_TEXT = 140, MOST_CALLS_A_STEP = 14;
    private static int refusedAsFull = 0;

    public static void main(String[] args) {
        for (int run = 0; run < RUNS; run++) {
            if (!new ModelTest(run).runs()) System.exit(1);
        }
        if (refusedAsFull >= RUNS_NEARLY_FULL) return;
        System.out.println("too few readings were refused as FULL: " + refusedAsFull);
        System.exit(1);
    }

    // ---- the model

    private static class Kind {
        boolean hears(int far, int reach, int wind) { return far <= reach; }
        boolean owed(int grave, int news, boolean isShort) { return news >= grave && news <= grave + 8; }
    }

    private static class DoubleKind extends Kind {
        @Override boolean hears(int far, int reach, int wind) { return reach > 0 && super.hears(far, reach - 1, wind); }
    }

    private static class InfantKind extends Kind {
        @Override boolean owed(int grave, int news, boolean isShort) { return isShort && super.owed(grave, news, isShort); }
    }

    private static final class EmptyKind extends Kind {
        @Override boolean hears(int far, int reach, int wind) { return false; }
        @Override boolean owed(int grave, int news, boolean isShort) { return false; }
    }

    private static final class ForeignKind extends DoubleKind {
        @Override boolean hears(int far, int reach, int wind) { return wind != 3 && super.hears(far, reach, wind); }
        @Override boolean owed(int grave, int news, boolean isShort) {
            return news != grave && super.owed(grave, news, isShort);
        }
    }

    private static final class EnemyKind extends InfantKind {
        @Override boolean owed(int grave, int news, boolean isShort) {
            return news == grave || super.owed(grave, news, isShort);
        }
    }

    private static final Kind[] KINDS = {new Kind(), new DoubleKind(), new InfantKind(), new EmptyKind(), new ForeignKind(),
        new EnemyKind()};

    private static final class Grave {
        int kind, place, year, wrongs;
        /** NEWS by when it was first heard. */
        Map<Integer, Integer> heard = new LinkedHashMap<>();

        Grave(int kind, int place, int year) {
            this.kind = kind;
            this.place = place;
            this.year = year;
        }

        Grave same() {
            Grave g = new Grave(kind, place, year);
            g.wrongs = wrongs;
            g.heard = new LinkedHashMap<>(heard);
            return g;
        }
    }

    private static final class News {
        int year, ahead, barred;
        boolean isShort;

        News(int year, int ahead, boolean isShort, int barred) {
            this.year = year;
            this.ahead = ahead;
            this.isShort = isShort;
            this.barred = barred;
        }
    }

    private static final class State {
        List<Grave> graves = new ArrayList<>();
        List<News> news = new ArrayList<>();
        List<Integer> readers = new ArrayList<>();
        int wind, now, readings;
        long draw = 1;
        int[] weights = {1, 1, 1, 1, 1};
        /** The graves as they were ahead of each reading, the latest first. */
        Deque<List<Grave>> undos = new ArrayDeque<>();

        State same() {
            State s = new State();
            s.graves = sameGraves(graves);
            for (News n : news) s.news.add(new News(n.year, n.ahead, n.isShort, n.barred));
            s.readers.addAll(readers);
            s.wind = wind;
            s.now = now;
            s.readings = readings;
            s.draw = draw;
            s.weights = weights.clone();
            for (List<Grave> u : undos) s.undos.addLast(sameGraves(u));
            return s;
        }
    }

    private static List<Grave> sameGraves(List<Grave> graves) {
        List<Grave> all = new ArrayList<>();
        for (Grave g : graves) all.add(g.same());
        return all;
    }

    private State s = new State();
    private State image = null;
    private final StringBuilder tape = new StringBuilder();
    private final Object[] sheets = new Object[4];

    private static int bit(int i) { return 1 << i; }

    private static boolean in(int set, int i) { return (set & 1 << i) != 0; }

    private static int far(Grave g, int place, int wind) {
        int gr = g.place / 6, gc = g.place % 6, pr = place / 6, pc = place % 6;
        int far = Math.abs(gr - pr) + Math.abs(gc - pc);
        boolean to = wind == 1 && gr < pr || wind == 2 && gc > pc || wind == 3 && gr > pr || wind == 4 && gc < pc;
        boolean from = wind == 1 && gr > pr || wind == 2 && gc < pc || wind == 3 && gr < pr || wind == 4 && gc > pc;
        return to ? far - 1 : from ? far + 1 : far;
    }

    private boolean hear(int g, int reader, int place, int wind) {
        Grave grave = s.graves.get(g);
        return KINDS[grave.kind].hears(far(grave, place, wind), s.readers.get(reader), wind);
    }

    private int hearing(int reader, int place) {
        int set = 0;
        for (int g = 0; g < s.graves.size(); g++) if (hear(g, reader, place, s.wind)) set |= bit(g);
        return set;
    }

    private boolean owed(int g, int n) {
        Grave grave = s.graves.get(g);
        News news = s.news.get(n);
        return !in(news.barred, g) && KINDS[grave.kind].owed(grave.year, news.year, news.isShort);
    }

    private int owedSet(int g) {
        int set = 0;
        for (int n = 0; n < s.news.size(); n++) if (owed(g, n)) set |= bit(n);
        return set;
    }

    private int heardSet(int g) {
        int set = 0;
        for (int n : s.graves.get(g).heard.keySet()) set |= bit(n);
        return set;
    }

    private int arrears(int g) { return owedSet(g) & ~heardSet(g); }

    private boolean late(int g) {
        for (int n = 0; n < s.news.size(); n++) {
            if (in(arrears(g), n) && s.news.get(n).year <= s.now - 9) return true;
        }
        return false;
    }

    private int wrongSet(int reader, int place, int n) {
        int set = 0;
        for (int g = 0; g < s.graves.size(); g++) {
            if (!hear(g, reader, place, s.wind)) continue;
            boolean barred = in(s.news.get(n).barred, g);
            boolean again = s.graves.get(g).heard.containsKey(n);
            boolean tooSoon = (s.news.get(n).ahead & owedSet(g) & ~heardSet(g)) != 0;
            if (barred || again || tooSoon) set |= bit(g);
        }
        return set;
    }

    private boolean doRead(int reader, int place, int n) {
        int wrong = wrongSet(reader, place, n);
        int hearing = hearing(reader, place);
        s.undos.addFirst(sameGraves(s.graves));
        if (s.undos.size() > 10) s.undos.removeLast();
        for (int g = 0; g < s.graves.size(); g++) {
            if (in(hearing, g)) s.graves.get(g).heard.putIfAbsent(n, s.readings);
            if (in(wrong, g)) s.graves.get(g).wrongs = Math.min(99, s.graves.get(g).wrongs + 1);
        }
        s.readings++;
        return wrong == 0;
    }

    private boolean reads(long reader, long place, long n) {
        return reader >= 0 && reader < s.readers.size() && place >= 0 && place < 36 && n >= 0 && n < s.news.size();
    }

    private boolean graveThere(int g) { return g >= 0 && g < s.graves.size(); }

    private boolean newsThere(int n) { return n >= 0 && n < s.news.size(); }

    private boolean readerThere(int r) { return r >= 0 && r < s.readers.size(); }

    private static boolean setOf(int set, int many) { return set >= 0 && set >> many == 0; }

    // ---- texts

    private int pos;
    private String text;

    private int look() {
        while (pos < text.length() && text.charAt(pos) == ' ') pos++;
        return pos < text.length() ? text.charAt(pos) : 0;
    }

    private static final class Fault extends RuntimeException {
        private static final long serialVersionUID = 1;
    }

    private int oneOf(String signs) {
        int at = look() == 0 ? -1 : signs.indexOf(look());
        if (at < 0) throw new Fault();
        pos++;
        return at;
    }

    private boolean perhaps(char sign) {
        if (look() != sign) return false;
        pos++;
        return true;
    }

    private int numberTo(int most) {
        look();
        int end = pos;
        while (end < text.length() && Character.isDigit(text.charAt(end))) end++;
        if (end == pos) throw new Fault();
        java.math.BigInteger v = new java.math.BigInteger(text.substring(pos, end));
        if (v.compareTo(java.math.BigInteger.valueOf(most)) > 0) throw new Fault();
        pos = end;
        return v.intValue();
    }

    private static String first(String signs, int many) { return signs.substring(0, many); }

    private int yard() {
        text = tape.toString();
        tape.setLength(0);
        pos = 0;
        List<Grave> all = new ArrayList<>();
        try {
            do {
                if (all.size() == 10) {
                    pos--;
                    while (text.charAt(pos) != ',') pos--;
                    throw new Fault();
                }
                int kind = oneOf("pdiefn");
                int row = oneOf("012345");
                int column = oneOf("012345");
                oneOf("@");
                all.add(new Grave(kind, row * 6 + column, numberTo(89)));
            } while (perhaps(','));
            if (look() != 0) throw new Fault();
        } catch (Fault f) {
            return -20 - pos;
        }
        s.graves = all;
        s.undos.clear();
        return all.size();
    }

    private int paper() {
        text = tape.toString();
        tape.setLength(0);
        pos = 0;
        List<News> all = new ArrayList<>();
        try {
            do {
                if (all.size() == 12) {
                    pos--;
                    throw new Fault();
                }
                all.add(typedNews(all));
            } while (perhaps(','));
            if (look() != 0) throw new Fault();
        } catch (Fault f) {
            return -20 - pos;
        }
        s.news = all;
        for (Grave g : s.graves) {
            g.heard.clear();
            g.wrongs = 0;
        }
        s.undos.clear();
        return all.size();
    }

    private News typedNews(List<News> told) {
        int year = numberTo(99);
        boolean isShort = perhaps('s');
        int ahead = 0;
        if (perhaps('<')) {
            do {
                StringBuilder may = new StringBuilder();
                for (int n = 0; n < told.size(); n++) {
                    if (!in(ahead, n) && told.get(n).year <= year) may.append((char) ('a' + n));
                }
                ahead |= bit(oneOf(may.toString().isEmpty() ? "\u0001" : may.toString(), "abcdefghijkl"));
            } while (look() >= 'a' && look() <= 'l');
        }
        int barred = 0;
        if (perhaps('!')) {
            do {
                StringBuilder may = new StringBuilder();
                for (int g = 0; g < 10; g++) if (!in(barred, g)) may.append(g);
                barred |= bit(oneOf(may.toString().isEmpty() ? "\u0001" : may.toString(), "0123456789"));
            } while (look() >= '0' && look() <= '9');
        }
        return new News(year, ahead, isShort, barred);
    }

    /** One of the signs that may stand there, told by its place among all of them. */
    private int oneOf(String may, String all) {
        return all.indexOf(may.charAt(oneOf(may)));
    }

    private int day() {
        text = tape.toString();
        tape.setLength(0);
        pos = 0;
        List<int[]> all = new ArrayList<>();
        try {
            do {
                int reader = oneOf(first("0123", s.readers.size()));
                int row = oneOf("012345");
                int column = oneOf("012345");
                all.add(new int[] {reader, row * 6 + column, oneOf(first("abcdefghijkl", s.news.size()))});
            } while (perhaps(';'));
            if (look() != 0) throw new Fault();
        } catch (Fault f) {
            return -20 - pos;
        }
        int clean = 0;
        for (int[] r : all) {
            if (s.readings == 9999) break;
            if (doRead(r[0], r[1], r[2])) clean++;
        }
        return clean;
    }

    // ---- searches

    private int stand(int reader, int n) {
        if (!readerThere(reader) || !newsThere(n)) return -1;
        int best = -4, most = 0;
        for (int p = 35; p >= 0; p--) {
            if (wrongSet(reader, p, n) != 0) continue;
            int paid = 0;
            for (int g = 0; g < s.graves.size(); g++) if (in(arrears(g), n) && in(hearing(reader, p), g)) paid++;
            if (paid >= most && paid > 0) {
                most = paid;
                best = p;
            }
        }
        return best;
    }

    private boolean[] cleanAt;
    private int[] hearAt;

    /** The first row of so many places by which all are paid, each read behind the other. */
    private List<Integer> coverRow(int left, int heard, int owed) {
        if (left == 0) return (owed & ~heard) == 0 ? new ArrayList<>() : null;
        for (int p = 0; p < 36; p++) {
            if (!cleanAt[p] || (hearAt[p] & heard) != 0) continue;
            List<Integer> rest = coverRow(left - 1, heard | hearAt[p], owed);
            if (rest == null) continue;
            rest.add(0, p);
            return rest;
        }
        return null;
    }

    private int cover(int reader, int n, int i) {
        if (!readerThere(reader) || !newsThere(n) || i < -1 || i > 2) return -1;
        int owed = 0;
        for (int g = 0; g < s.graves.size(); g++) if (in(arrears(g), n)) owed |= bit(g);
        cleanAt = new boolean[36];
        hearAt = new int[36];
        for (int p = 0; p < 36; p++) {
            cleanAt[p] = wrongSet(reader, p, n) == 0;
            hearAt[p] = hearing(reader, p);
        }
        for (int many = 0; many <= 3; many++) {
            List<Integer> row = coverRow(many, 0, owed);
            if (row != null) return i == -1 ? many : i < many ? row.get(i) : -4;
        }
        return -4;
    }

    private final Map<Integer, Long> orderMemo = new LinkedHashMap<>();

    /** Rows of what is left, by which may be the last of it. */
    private long rowsOf(int left) {
        if (left == 0) return 1;
        Long known = orderMemo.get(left);
        if (known != null) return known;
        long all = 0;
        for (int n = 0; n < s.news.size(); n++) {
            if (!in(left, n)) continue;
            boolean needed = false;
            for (int m = 0; m < s.news.size(); m++) needed |= in(left, m) && in(s.news.get(m).ahead, n);
            if (!needed) all += rowsOf(left & ~bit(n));
        }
        orderMemo.put(left, all);
        return all;
    }

    private int orders(int i) {
        if (i < -1 || i > 11) return -1;
        orderMemo.clear();
        if (i == -1) return (int) rowsOf((1 << s.news.size()) - 1);
        if (i >= s.news.size()) return -4;
        List<Integer> row = new ArrayList<>();
        while (row.size() < s.news.size()) {
            int next = -1;
            for (int n = 0; n < s.news.size(); n++) {
                boolean may = !row.contains(n);
                for (int m = 0; m < n; m++) may &= !in(s.news.get(n).ahead, m) || row.contains(m);
                if (may) next = n;
            }
            row.add(next);
        }
        return row.get(i);
    }

    private int years(int n, int what) {
        if (n < 1 || n > 30 || what < 0 || what > 1) return -1;
        List<int[]> all = new ArrayList<>();
        for (int g = 0; g < s.graves.size(); g++) {
            for (int m = 0; m < s.news.size(); m++) if (in(arrears(g), m)) all.add(new int[] {s.news.get(m).year, g, m});
        }
        all.sort((a, b) -> Arrays.compare(a, b));
        int year = s.now, left = n, took = all.isEmpty() ? 0 : 1;
        for (int[] owed : all) {
            if (left == 0) {
                year++;
                took++;
                left = n;
            }
            left--;
            if (what == 1 && year >= owed[0] + 9) return owed[1];
        }
        return what == 1 ? -4 : took;
    }

    private int[] fraction(int reader, int place, int set) {
        int above = 0, below = 0;
        for (int w = 0; w < 5; w++) {
            below += s.weights[w];
            boolean all = true;
            for (int g = 0; g < s.graves.size(); g++) if (in(set, g)) all &= hear(g, reader, place, w);
            if (all) above += s.weights[w];
        }
        return new int[] {above, below};
    }

    private int chance(int reader, int place, int set, int part) {
        if (!readerThere(reader) || place < 0 || place > 35 || !setOf(set, s.graves.size()) || part < 0 || part > 1) return -1;
        int[] f = fraction(reader, place, set);
        if (f[1] == 0) return -2;
        int a = f[0], b = f[1];
        while (b != 0) {
            int t = a % b;
            a = b;
            b = t;
        }
        return f[part] / a;
    }

    private int likeliest(int reader, int set) {
        if (!readerThere(reader) || !setOf(set, s.graves.size())) return -1;
        int best = 35;
        for (int p = 35; p >= 0; p--) {
            if (fraction(reader, p, set)[1] == 0) return -2;
            if (fraction(reader, p, set)[0] >= fraction(reader, best, set)[0]) best = p;
        }
        return best;
    }

    private int sooner(int g, int what) {
        if (!graveThere(g) || what < 0 || what > 1) return -1;
        Map<Integer, Integer> heard = s.graves.get(g).heard;
        List<Integer> pairs = new ArrayList<>();
        for (int b : heard.keySet()) {
            for (int a : heard.keySet()) {
                if (in(s.news.get(b).ahead, a) && heard.get(b) < heard.get(a)) pairs.add(100 * a + b);
            }
        }
        pairs.sort(null);
        return what == 0 ? pairs.size() : pairs.isEmpty() ? -4 : pairs.get(0);
    }

    // ---- sheets

    private static int length(Object row) { return java.lang.reflect.Array.getLength(row); }

    private static Object rowOf(int lane, int n) {
        return lane == 0 ? new byte[n] : lane == 1 ? new short[n] : lane == 2 ? new int[n] : new long[n];
    }

    private static void set(Object row, int i, long v) {
        if (row instanceof byte[] b) b[i] = (byte) v;
        else if (row instanceof short[] h) h[i] = (short) v;
        else if (row instanceof int[] w) w[i] = (int) v;
        else ((long[]) row)[i] = v;
    }

    private static int laneOf(Object row) {
        return row instanceof byte[] ? 0 : row instanceof short[] ? 1 : row instanceof int[] ? 2 : 3;
    }

    private static long get(Object row, int i) { return java.lang.reflect.Array.getLong(row, i); }

    private int refused(int sheet, int lane, long from, long n) {
        if (sheet < 0 || sheet > 3 || lane < 0 || lane > 3) return -1;
        if (sheets[sheet] == null) return -11;
        if (laneOf(sheets[sheet]) != lane) return -12;
        return from < 0 || n < 0 || from + n > length(sheets[sheet]) ? -13 : 0;
    }

    private int refusedRow(int sheet, int lane, int from, int n) {
        if (n < 1 || n > 12) return -1;
        int r = refused(sheet, lane, from, 3L * n);
        if (r != 0) return r;
        for (int k = 0; k < n; k++) {
            int at = from + 3 * k;
            if (!reads(get(sheets[sheet], at), get(sheets[sheet], at + 1), get(sheets[sheet], at + 2))) return -2;
        }
        return 0;
    }

    private int which(int set, int sheet, int lane, int from, int n) {
        if (!setOf(set, s.news.size())) return -1;
        int r = refusedRow(sheet, lane, from, n);
        if (r != 0) return r;
        int all = 0;
        for (int g = 0; g < s.graves.size(); g++) {
            int heard = 0;
            for (int k = 0; k < n; k++) {
                int at = from + 3 * k;
                if (hear(g, (int) get(sheets[sheet], at), (int) get(sheets[sheet], at + 1), s.wind)) {
                    heard |= bit((int) get(sheets[sheet], at + 2));
                }
            }
            if (heard == set) all |= bit(g);
        }
        return all;
    }

    private int judged(int sheet, int lane, int from, int n) {
        int r = refusedRow(sheet, lane, from, n);
        if (r != 0) return r;
        State was = s.same();
        int answer = -4;
        for (int k = 0; k < n && answer == -4; k++) {
            int at = from + 3 * k;
            boolean clean = doRead((int) get(sheets[sheet], at), (int) get(sheets[sheet], at + 1),
                (int) get(sheets[sheet], at + 2));
            if (!clean) answer = k;
        }
        s = was;
        return answer;
    }

    // ---- a run

    private final int run;
    private final Random random;
    private final GraveNews x = new GraveNews();
    private final List<String> done = new ArrayList<>();
    private boolean same = true;

    private ModelTest(int run) {
        this.run = run;
        this.random = new Random(run);
    }

    private void due(String call, long got, long want) {
        done.add(call + " " + got);
        if (got == want || !same) return;
        same = false;
        System.out.println("run " + run + ": " + done + ", due is " + want);
    }

    /** Mostly 0 .. many - 1, now and then beside it. */
    private int some(int many) {
        int r = random.nextInt(40);
        if (r == 0) return -1 - random.nextInt(3);
        if (r == 1) return many + random.nextInt(2);
        if (r == 2 && random.nextInt(4) == 0) return random.nextInt();
        return random.nextInt(Math.max(1, many));
    }

    private boolean runs() {
        if (random.nextInt(8) > 0) start();
        if (run < RUNS_NEARLY_FULL) readNearlyAll();
        while (same && done.size() <= MOST_CALLS - MOST_CALLS_A_STEP) {
            int kind = random.nextInt(24);
            if (kind < 1 && done.size() > MOST_CALLS - MOST_CALLS_A_TEXT) continue;
            if (kind < 1) typeText();
            else if (kind < 2) fillSheet();
            else if (kind < 4) change();
            else if (kind < 10) reading();
            else if (kind < 20) ask();
            else askSheet();
        }
        if (done.size() > MOST_CALLS) System.out.println("run " + run + " has too many calls: " + done.size());
        return same && done.size() <= MOST_CALLS;
    }

    /** Up to a few READINGS below 9999, so that of what follows some is refused. */
    private void readNearlyAll() {
        while (s.readers.isEmpty()) addReader();
        while (s.news.isEmpty()) addNews();
        for (int k = 0; k < 333; k++) due("lots 30", x.lots(30), lots(30));
        due("lots 7", x.lots(7), lots(7));
    }

    private void start() {
        for (int k = random.nextInt(11); k > 0; k--) addGrave();
        for (int k = random.nextInt(13); k > 0; k--) addNews();
        for (int k = random.nextInt(5); k > 0; k--) addReader();
        fillSheet();
    }

    private int base() { return run % 80; }

    private void addGrave() {
        int kind = some(6), place = some(36), year = random.nextInt(5) == 0 ? some(90) : base() + some(6);
        boolean ok = kind >= 0 && kind < 6 && place >= 0 && place < 36 && year >= 0 && year < 90;
        int want = !ok ? -1 : s.graves.size() == 10 ? -3 : s.graves.size();
        due("grave " + kind + " " + place + " " + year, x.grave(kind, place, year), want);
        if (want >= 0) s.graves.add(new Grave(kind, place, year));
    }

    private void addNews() {
        int year = random.nextInt(5) == 0 ? some(100) : base() + some(15), isShort = some(2);
        int ahead = some(1 << s.news.size()) & (random.nextBoolean() ? -1 : random.nextInt());
        boolean ok = year >= 0 && year < 100 && isShort >= 0 && isShort < 2 && setOf(ahead, s.news.size());
        for (int n = 0; ok && n < s.news.size(); n++) ok = !in(ahead, n) || s.news.get(n).year <= year;
        int want = !ok ? -1 : s.news.size() == 12 ? -3 : s.news.size();
        due("news " + year + " " + ahead + " " + isShort, x.news(year, ahead, isShort), want);
        if (want >= 0) s.news.add(new News(year, ahead, isShort == 1, 0));
    }

    private void addReader() {
        int reach = some(10);
        int want = reach < 0 || reach > 9 ? -1 : s.readers.size() == 4 ? -3 : s.readers.size();
        due("reader " + reach, x.reader(reach), want);
        if (want >= 0) s.readers.add(reach);
    }

    private void typeText() {
        int what = random.nextInt(3);
        StringBuilder t = new StringBuilder();
        int many = what == 0 ? 1 + random.nextInt(11) : what == 1 ? 1 + random.nextInt(13) : 1 + random.nextInt(8);
        for (int k = 0; k < many; k++) {
            if (k > 0) t.append(what == 2 ? ';' : ',');
            if (what == 0) t.append("pdiefn".charAt(random.nextInt(6))).append(random.nextInt(6)).append(random.nextInt(6))
                .append('@').append(Math.min(base() + random.nextInt(5), 89 + random.nextInt(40) / 39));
            if (what == 1) newsText(t, k);
            if (what == 2) t.append(random.nextInt(Math.max(1, s.readers.size()))).append(random.nextInt(6))
                .append(random.nextInt(6)).append((char) ('a' + random.nextInt(Math.max(1, s.news.size()))));
        }
        for (int k = random.nextInt(3); k > 0; k--) t.insert(random.nextInt(t.length() + 1), ' ');
        if (random.nextInt(3) == 0) spoil(t);
        for (int i = 0; i < t.length(); i++) {
            int want = tape.length() == 160 ? -3 : tape.length() + 1;
            due("type " + t.charAt(i), x.type(t.charAt(i)), want);
            if (want > 0) tape.append(t.charAt(i));
        }
        if (what == 0) due("yard", x.yard(), yard());
        if (what == 1) due("paper", x.paper(), paper());
        if (what == 2) due("day", x.day(), day());
    }

    private void newsText(StringBuilder t, int told) {
        t.append(Math.min(base() + told / 2 + random.nextInt(2), 99));
        if (random.nextInt(3) == 0) t.append('s');
        if (told > 0 && random.nextInt(2) == 0) {
            t.append('<');
            int first = random.nextInt(told);
            for (int n = first; n < told && n < first + 3; n++) if (n == first || random.nextBoolean()) t.append((char) ('a' + n));
        }
        if (random.nextInt(5) == 0) t.append('!').append(random.nextInt(10));
    }

    private void spoil(StringBuilder t) {
        String signs = "pdiefn0123456789@,;<! sabcl~x";
        int at = random.nextInt(t.length());
        int how = random.nextInt(3);
        if (how == 0) t.deleteCharAt(at);
        else if (how == 1) t.setCharAt(at, signs.charAt(random.nextInt(signs.length())));
        else t.insert(at, signs.charAt(random.nextInt(signs.length())));
    }

    private void change() {
        switch (random.nextInt(12)) {
            case 0: addGrave(); break;
            case 1: addNews(); break;
            case 2: addReader(); break;
            case 3: if (random.nextInt(4) == 0) out(); break;
            case 4: bar(); break;
            case 5: case 6: {
                int v = some(5);
                boolean ok = v >= 0 && v < 5;
                due("wind " + v, x.wind(v), ok ? s.wind : -1);
                if (ok) s.wind = v;
                break;
            }
            case 7: {
                int w = some(5), v = random.nextInt(3) == 0 ? some(10) : 0;
                boolean ok = w >= 0 && w < 5 && v >= 0 && v < 10;
                due("weight " + w + " " + v, x.weight(w, v), ok ? s.weights[w] : -1);
                if (ok) s.weights[w] = v;
                break;
            }
            case 8: {
                int v = random.nextBoolean() ? some(100) : base() + some(20);
                boolean ok = v >= 0 && v < 100;
                due("now " + v, x.now(v), ok ? s.now : -1);
                if (ok) s.now = v;
                break;
            }
            case 9: {
                int v = random.nextInt();
                due("seed " + v, x.seed(v), v < 0 ? -1 : s.draw);
                if (v >= 0) s.draw = v;
                break;
            }
            case 10:
                due("image", x.image(), 1);
                image = s.same();
                break;
            default:
                if (random.nextInt(3) > 0) return;
                due("restore", x.restore(), image == null ? -4 : 1);
                if (image != null) s = image.same();
        }
    }

    private void out() {
        due("out", x.out(), s.graves.isEmpty() ? -4 : s.graves.size() - 1);
        if (s.graves.isEmpty()) return;
        s.graves.remove(s.graves.size() - 1);
        s.undos.clear();
    }

    private void bar() {
        int n = some(s.news.size()), set = random.nextInt(3) == 0 ? some(1024) : random.nextBoolean() ? bit(random.nextInt(10)) : 0;
        boolean ok = newsThere(n) && setOf(set, 10);
        due("bar " + n + " " + set, x.bar(n, set), ok ? s.news.get(n).barred : -1);
        if (ok) s.news.get(n).barred = set;
    }

    private void reading() {
        int reader = some(s.readers.size()), place = some(36), n = some(s.news.size());
        int how = random.nextInt(12);
        if (how < 7) {
            int want = !reads(reader, place, n) ? -1 : s.readings == 9999 ? -3 : hearing(reader, place);
            due("read " + reader + " " + place + " " + n, x.read(reader, place, n), want);
            if (want == -3) refusedAsFull++;
            if (want >= 0) doRead(reader, place, n);
        } else if (how < 9) {
            due("undo", x.undo(), s.undos.isEmpty() ? -4 : s.undos.size() - 1);
            if (!s.undos.isEmpty()) undone();
        } else if (how == 9) {
            int k = 1 + some(random.nextBoolean() ? 30 : 5);
            int want = lots(k);
            due("lots " + k, x.lots(k), want);
            if (want == -3) refusedAsFull++;
        } else {
            due("wronged " + reader + " " + place + " " + n, x.wronged(reader, place, n),
                reads(reader, place, n) ? wrongSet(reader, place, n) : -1);
        }
    }

    /** Graves that came later stay; they heard nothing of what was read ahead of them. */
    private void undone() {
        List<Grave> was = s.undos.removeFirst();
        for (int g = was.size(); g < s.graves.size(); g++) was.add(s.graves.get(g));
        s.graves = was;
        s.readings--;
    }

    private int drawn(int many) {
        s.draw = (s.draw * 1103515245L + 12345L) & 0x7fffffffL;
        return (int) (s.draw / 65536 % many);
    }

    private int lots(int n) {
        if (n < 1 || n > 30) return -1;
        if (s.readers.isEmpty() || s.news.isEmpty()) return -2;
        if (s.readings + n > 9999) return -3;
        int clean = 0;
        for (int k = 0; k < n; k++) {
            s.wind = drawn(5);
            int reader = drawn(s.readers.size());
            int place = drawn(36);
            if (doRead(reader, place, drawn(s.news.size()))) clean++;
        }
        return clean;
    }

    private void ask() {
        int g = some(s.graves.size()), h = some(s.graves.size()), n = some(s.news.size()), r = some(s.readers.size());
        int p = some(36), set = some(1 << s.graves.size());
        if (random.nextBoolean() && g >= 0 && g < 10) set = bit(g);
        switch (random.nextInt(14)) {
            case 0: due("told " + g, x.told(g, h = some(8)), graveThere(g) ? told(g, h) : -1); break;
            case 1: due("of " + n, x.of(n, h = some(6)), newsThere(n) ? of(n, h) : -1); break;
            case 2: due("count", x.count(h = some(10)), counted(h)); break;
            case 3: due("hears", x.hears(r, p), readerThere(r) && p >= 0 && p < 36 ? hearing(r, p) : -1); break;
            case 4: due("stand " + r + " " + n, x.stand(r, n), stand(r, n)); break;
            case 5: {
                int i = some(4) - 1;
                due("cover " + r + " " + n + " " + i, x.cover(r, n, i), cover(r, n, i));
                break;
            }
            case 6: due("orders", x.orders(h = random.nextBoolean() ? -1 : some(12)), orders(h)); break;
            case 7: {
                int m = 1 + some(random.nextBoolean() ? 3 : 30), what = some(2);
                due("years " + m + " " + what, x.years(m, what), years(m, what));
                break;
            }
            case 8: due("chance", x.chance(r, p, set, h = some(2)), chance(r, p, set, h)); break;
            case 9: due("likeliest", x.likeliest(r, set), likeliest(r, set)); break;
            case 10: due("more", x.more(g, h), graveThere(g) && graveThere(h) ? heardSet(g) & ~heardSet(h) : -1); break;
            case 11: due("sooner " + g, x.sooner(g, h = some(2)), sooner(g, h)); break;
            case 12: due("hidden", x.hidden(r, set), hidden(r, set)); break;
            default: due("alone " + r + " " + g, x.alone(r, g), alone(r, g));
        }
    }

    private int told(int g, int what) {
        Grave grave = s.graves.get(g);
        int[] all = {grave.kind, grave.place, grave.year, heardSet(g), owedSet(g), arrears(g), grave.wrongs, late(g) ? 1 : 0};
        return what < 0 || what > 7 ? -1 : all[what];
    }

    private int of(int n, int what) {
        News news = s.news.get(n);
        int owed = 0, heard = 0;
        for (int g = 0; g < s.graves.size(); g++) {
            if (owed(g, n)) owed |= bit(g);
            if (in(heardSet(g), n)) heard |= bit(g);
        }
        int[] all = {news.year, news.ahead, news.barred, news.isShort ? 1 : 0, owed, heard};
        return what < 0 || what > 5 ? -1 : all[what];
    }

    private int counted(int what) {
        int arrears = 0, paid = 0, late = 0, wrongs = 0;
        for (int g = 0; g < s.graves.size(); g++) {
            arrears += Integer.bitCount(arrears(g));
            paid += arrears(g) == 0 ? 1 : 0;
            late += late(g) ? 1 : 0;
            wrongs += s.graves.get(g).wrongs;
        }
        int[] all = {s.graves.size(), s.news.size(), s.readers.size(), s.readings, arrears, paid, late, s.undos.size(), s.wind,
            wrongs};
        return what < 0 || what > 9 ? -1 : all[what];
    }

    private long hidden(int r, int set) {
        if (!readerThere(r) || !setOf(set, s.graves.size())) return -1;
        long all = 0;
        for (int p = 0; p < 36; p++) if ((hearing(r, p) & set) == 0) all += 1L << p;
        return all;
    }

    private int alone(int r, int g) {
        if (!readerThere(r) || !graveThere(g)) return -1;
        for (int p = 0; p < 36; p++) if (in(hearing(r, p), g) && Integer.bitCount(hearing(r, p)) == 1) return p;
        return -4;
    }

    private void fillSheet() {
        int sheet = some(4), lane = some(4), n = random.nextInt(4) == 0 ? some(37) : 36 - random.nextInt(3);
        int want = sheet < 0 || sheet > 3 || lane < 0 || lane > 3 || n > 36 ? -1 : n < 0 ? -14 : n;
        due("sheet " + sheet + " " + lane + " " + n, x.sheet(sheet, lane, n), want);
        if (want < 0) return;
        sheets[sheet] = rowOf(lane, n);
        for (int i = 0; i < Math.min(n, 12); i++) {
            long v = some(i % 3 == 0 ? s.readers.size() : i % 3 == 1 ? 36 : s.news.size());
            if (random.nextInt(10) == 0) v += 1L << 8 * (1 + random.nextInt(7));
            due("item " + i + " " + v, x.item(sheet, lane, i, v), 1);
            set(sheets[sheet], i, v);
        }
    }

    private void askSheet() {
        int sheet = some(4), to = some(4), from = random.nextBoolean() ? 0 : some(37);
        int lane = sheet >= 0 && sheet < 4 && sheets[sheet] != null && random.nextInt(8) > 0 ? laneOf(sheets[sheet]) : some(4);
        int n = 1 + some(random.nextBoolean() ? 4 : 12);
        switch (random.nextInt(9)) {
            case 0: case 1: case 2: {
                int set = random.nextInt(3) > 0 ? random.nextInt(1 << Math.min(2, s.news.size())) : some(1 << s.news.size());
                due("which " + set + " " + sheet + " " + lane + " " + from + " " + n, x.which(set, sheet, lane, from, n),
                    which(set, sheet, lane, from, n));
                break;
            }
            case 3: case 4:
                due("judged " + sheet + " " + lane + " " + from + " " + n, x.judged(sheet, lane, from, n),
                    judged(sheet, lane, from, n));
                break;
            case 5: {
                int want = refused(sheet, lane, from, s.graves.size());
                due("film " + sheet + " " + lane + " " + from, x.film(sheet, lane, from), want == 0 ? s.graves.size() : want);
                for (int g = 0; want == 0 && g < s.graves.size(); g++) set(sheets[sheet], from + g, arrears(g));
                break;
            }
            case 6: {
                if (random.nextInt(4) > 0) return;
                int want = sheet < 0 || sheet > 3 ? -1 : sheets[sheet] == null ? -11 : length(sheets[sheet]);
                due("drop " + sheet, x.drop(sheet), want);
                if (want >= 0) sheets[sheet] = null;
                break;
            }
            case 7: {
                long v = random.nextBoolean() ? random.nextInt(4) : random.nextLong();
                int want = refused(sheet, lane, from, 1);
                due("item " + sheet + " " + lane + " " + from + " " + v, x.item(sheet, lane, from, v), want == 0 ? 1 : want);
                if (want == 0) set(sheets[sheet], from, v);
                break;
            }
            default: copied(sheet, some(12), random.nextBoolean() ? sheet : to, some(12), random.nextInt(4) == 0 ? some(37) : some(12));
        }
    }

    private void copied(int from, int i, int to, int j, int n) {
        int want = n;
        if (from < 0 || from > 3 || to < 0 || to > 3) want = -1;
        else if (sheets[from] == null || sheets[to] == null) want = -11;
        else if (laneOf(sheets[from]) != laneOf(sheets[to])) want = -12;
        else if (i < 0 || j < 0 || n < 0 || (long) i + n > length(sheets[from]) || (long) j + n > length(sheets[to])) want = -13;
        due("copy " + from + " " + i + " " + to + " " + j + " " + n, x.copy(from, i, to, j, n), want);
        if (want < 0) return;
        long[] taken = new long[n];
        for (int k = 0; k < n; k++) taken[k] = get(sheets[from], i + k);
        for (int k = 0; k < n; k++) set(sheets[to], j + k, taken[k]);
    }
}
