import java.util.ArrayList;
import java.util.List;

/**
 * What is refused changes nothing, but as told; nor does what only asks; and all but sheets and the tape is, when it is
 * restored, as it was. Each such call is made on one of two objects that are made alike, and then both are looked at:
 * all that can be asked of them is the same. And of several refusals the first that a call names is told.
 */
public final class StateTest {
    private static final int BAD = -1, NOT = -2, FULL = -3, NONE = -4, NULL = -11, CAST = -12, INDEX = -13, SIZE = -14;
    private static final int LEAST = Integer.MIN_VALUE, MOST = Integer.MAX_VALUE;
    private static final int LOOKS = 3;

    private interface Make { GraveNews made(); }

    private interface Call { long on(GraveNews x); }

    private static int wrong = 0;

    private static void due(String call, long got, long want) {
        if (got == want) return;
        wrong++;
        System.out.println(call + " answered " + got + ", due is " + want);
    }

    public static void main(String[] args) {
        looksSeeEverything();
        badNumbers();
        badNumbersOfSets();
        badNumbersOfSheets();
        fullOnes();
        fullOfReadings();
        noneOnes();
        notOnes();
        machineOnes();
        faults();
        firstNamed();
        asked();
        freshOnes();
        imageKeepsAll();
        imageKeepsNoSheetsNorTape();
        imageIsTheLatest();
        if (wrong != 0) System.exit(1);
    }

    // ---- looking at all of an object, in three looks, so that none is used for more than 512 calls

    private static List<Long> look(GraveNews x, int which) {
        List<Long> all = new ArrayList<>();
        if (which == 0) lookAtParish(x, all);
        else if (which == 1) lookAtUndos(x, all);
        else lookAtRest(x, all);
        return all;
    }

    private static void lookAtParish(GraveNews x, List<Long> all) {
        for (int k = 0; k < 10; k++) all.add((long) x.count(k));
        for (int g = 0; g < x.count(0); g++) {
            for (int k = 0; k < 8; k++) all.add((long) x.told(g, k));
            all.add((long) x.sooner(g, 0));
            all.add((long) x.sooner(g, 1));
        }
        for (int n = 0; n < x.count(1); n++) {
            for (int k = 0; k < 6; k++) all.add((long) x.of(n, k));
        }
        for (int r = 0; r < x.count(2); r++) all.add(x.hidden(r, x.count(0) > 0 ? 1 : 0));
        all.add((long) x.orders(-1));
    }

    private static void lookAtUndos(GraveNews x, List<Long> all) {
        int graves = x.count(0);
        int left = x.count(7);
        for (int k = 0; k < 11 && left >= 0; k++) {
            left = x.undo();
            all.add((long) left);
            all.add((long) x.count(3));
            for (int g = 0; g < graves; g++) {
                all.add((long) x.told(g, 3));
                all.add((long) x.told(g, 6));
            }
        }
    }

    private static void lookAtRest(GraveNews x, List<Long> all) {
        for (int w = 0; w < 5; w++) all.add((long) x.weight(w, 1));
        all.add((long) x.now(0));
        all.add((long) x.seed(1));
        for (int s = 0; s < 4; s++) lookAtSheet(x, s, all);
        all.add((long) x.type(' '));
        all.add((long) x.yard());
        for (int k = 0; k < 3; k++) all.add((long) x.told(0, k));
        all.add((long) x.restore());
        for (int k = 0; k < 10; k++) all.add((long) x.count(k));
        for (int k = 0; k < 8; k++) all.add((long) x.told(0, k));
        for (int k = 0; k < 6; k++) all.add((long) x.of(0, k));
        all.add((long) x.now(0));
        all.add((long) x.seed(1));
        for (int w = 0; w < 5; w++) all.add((long) x.weight(w, 1));
    }

    /** Its lane, its first readings as such, its length. */
    private static void lookAtSheet(GraveNews x, int s, List<Long> all) {
        for (int lane = 0; lane < 4; lane++) {
            long first = x.judged(s, lane, 0, 1);
            all.add(first);
            if (first == NULL || first == CAST) continue;
            all.add((long) x.judged(s, lane, 3, 1));
            for (int set = 0; set < 3; set++) {
                all.add((long) x.which(set, s, lane, 0, 1));
                all.add((long) x.which(set, s, lane, 3, 1));
            }
        }
        all.add((long) x.drop(s));
    }

    private static boolean alike(Make make, Call call) {
        for (int look = 0; look < LOOKS; look++) {
            GraveNews x = make.made();
            call.on(x);
            if (!look(x, look).equals(look(make.made(), look))) return false;
        }
        return true;
    }

    private static void refused(String name, Make make, long want, Call call) {
        due(name, call.on(make.made()), want);
        due(name + " (0: changes something)", alike(make, call) ? 1 : 0, 1);
    }

    private static void changesNothing(String name, Make make, Call call) {
        due(name + " (0: changes something)", alike(make, call) ? 1 : 0, 1);
    }

    // ---- objects

    private static void typed(GraveNews x, String text) {
        for (int i = 0; i < text.length(); i++) x.type(text.charAt(i));
    }

    /** Three graves, three news, two readers, readings of which two wronged somebody, an image, sheets 0 and 1. */
    private static GraveNews rich() {
        GraveNews x = new GraveNews();
        x.reader(1);
        x.reader(9);
        x.grave(0, 0, 5);
        x.grave(1, 7, 5);
        x.news(5, 0, 0);
        x.news(6, 1, 1);
        x.read(0, 0, 0);
        x.seed(12345);
        x.now(3);
        x.image();
        x.grave(2, 35, 6);
        x.news(7, 3, 0);
        x.bar(2, 4);
        x.wind(2);
        for (int w = 0; w < 5; w++) x.weight(w, w + 2);
        x.now(14);
        x.seed(54321);
        x.read(1, 14, 2);
        x.read(0, 0, 0);
        x.read(0, 29, 1);
        x.read(1, 0, 1);
        x.sheet(0, 0, 6);
        x.sheet(1, 1, 8);
        long[] row = {0, 6, 1, 1, 0, 2};
        for (int i = 0; i < 6; i++) x.item(0, 0, i, row[i]);
        for (int i = 0; i < 6; i++) x.item(1, 1, i, row[5 - i] / 2);
        return x;
    }

    private static GraveNews richWithTape() {
        GraveNews x = rich();
        typed(x, "d34@56");
        return x;
    }

    private static GraveNews full() {
        GraveNews x = new GraveNews();
        x.image();
        for (int g = 0; g < 10; g++) x.grave(g % 6, 3 * g, 5);
        for (int n = 0; n < 12; n++) x.news(5 + n, n == 0 ? 0 : 1, n % 2);
        for (int r = 0; r < 4; r++) x.reader(2 * r + 1);
        x.read(3, 0, 1);
        x.read(3, 0, 0);
        for (int k = 0; k < 154; k++) x.type(' ');
        typed(x, "p12@34");
        return x;
    }

    /** As many READINGS as may be, less so many. */
    private static GraveNews read(int less) {
        GraveNews x = new GraveNews();
        x.reader(1);
        x.news(5, 0, 0);
        x.news(5, 1, 0);
        x.grave(0, 0, 5);
        for (int k = 0; k < 333; k++) x.lots(30);
        x.lots(9 - less);
        return x;
    }

    private static GraveNews calm() {
        GraveNews x = rich();
        for (int w = 0; w < 5; w++) x.weight(w, 0);
        return x;
    }

    private static GraveNews fresh() {
        return new GraveNews();
    }

    /** The looks must see what each change does, else they would prove nothing. */
    private static void looksSeeEverything() {
        Call[] changes = {x -> x.grave(0, 0, 0), x -> x.out(), x -> x.reader(3), x -> x.news(9, 0, 0), x -> x.bar(0, 1),
            x -> x.wind(1), x -> x.weight(4, 7), x -> x.now(15), x -> x.type('x'), x -> x.type(' '), x -> x.yard(),
            x -> x.paper(), x -> x.day(), x -> x.read(0, 0, 0), x -> x.read(0, 23, 0), x -> x.undo(), x -> x.lots(1),
            x -> x.seed(1), x -> x.image(), x -> x.restore(), x -> x.film(0, 0, 3), x -> x.sheet(0, 0, 6),
            x -> x.sheet(3, 0, 0), x -> x.drop(1), x -> x.item(0, 0, 5, 1), x -> x.item(0, 0, 3, 9),
            x -> x.copy(1, 0, 1, 2, 3)};
        for (int k = 0; k < changes.length; k++) {
            due("change " + k + " is seen (0: not)", alike(StateTest::richWithTape, changes[k]) ? 0 : 1, 1);
        }
    }

    // ---- BAD

    private static void bad(String name, Call call) {
        refused(name, StateTest::richWithTape, BAD, call);
    }

    private static void badNumbers() {
        int[] some = {LEAST, -1, MOST};
        for (int v : some) {
            bad("grave kind", x -> x.grave(v, 0, 0));
            bad("grave place", x -> x.grave(0, v, 0));
            bad("grave year", x -> x.grave(0, 0, v));
            bad("reader", x -> x.reader(v));
            bad("news year", x -> x.news(v, 0, 0));
            bad("news short", x -> x.news(7, 0, v));
            bad("bar news", x -> x.bar(v, 0));
            bad("wind", x -> x.wind(v));
            bad("weight wind", x -> x.weight(v, 0));
            bad("weight", x -> x.weight(0, v));
            bad("now", x -> x.now(v));
            bad("told grave", x -> x.told(v, 0));
            bad("told what", x -> x.told(0, v));
            bad("of news", x -> x.of(v, 0));
            bad("of what", x -> x.of(0, v));
            bad("type", x -> x.type(v));
            bad("count", x -> x.count(v));
            bad("hears reader", x -> x.hears(v, 0));
            bad("hears place", x -> x.hears(0, v));
            bad("lots", x -> x.lots(v));
            bad("stand reader", x -> x.stand(v, 0));
            bad("stand news", x -> x.stand(0, v));
            bad("cover reader", x -> x.cover(v, 0, 0));
            bad("cover news", x -> x.cover(0, v, 0));
            bad("cover i", x -> x.cover(0, 0, v == -1 ? -2 : v));
            bad("orders", x -> x.orders(v == -1 ? -2 : v));
            bad("years n", x -> x.years(v, 0));
            bad("years what", x -> x.years(1, v));
            bad("more grave", x -> x.more(v, 0));
            bad("more other", x -> x.more(0, v));
            bad("sooner grave", x -> x.sooner(v, 0));
            bad("sooner what", x -> x.sooner(0, v));
            bad("alone reader", x -> x.alone(v, 0));
            bad("alone grave", x -> x.alone(0, v));
            badReadings(v, v, v);
        }
        justBeyond();
    }

    private static void badReadings(int reader, int place, int news) {
        bad("wronged reader", x -> x.wronged(reader, 0, 0));
        bad("wronged place", x -> x.wronged(0, place, 0));
        bad("wronged news", x -> x.wronged(0, 0, news));
        bad("read reader", x -> x.read(reader, 0, 0));
        bad("read place", x -> x.read(0, place, 0));
        bad("read news", x -> x.read(0, 0, news));
        bad("chance reader", x -> x.chance(reader, 0, 0, 0));
        bad("chance place", x -> x.chance(0, place, 0, 0));
    }

    private static void justBeyond() {
        bad("grave kind 6", x -> x.grave(6, 0, 0));
        bad("grave place 36", x -> x.grave(0, 36, 0));
        bad("grave year 90", x -> x.grave(0, 0, 90));
        bad("reader 10", x -> x.reader(10));
        bad("news 100", x -> x.news(100, 0, 0));
        bad("news short 2", x -> x.news(7, 0, 2));
        bad("bar 3", x -> x.bar(3, 0));
        bad("wind 5", x -> x.wind(5));
        bad("weight of 5", x -> x.weight(5, 0));
        bad("weight 10", x -> x.weight(0, 10));
        bad("now 100", x -> x.now(100));
        bad("told 3", x -> x.told(3, 0));
        bad("told what 8", x -> x.told(0, 8));
        bad("of 3", x -> x.of(3, 0));
        bad("of what 6", x -> x.of(0, 6));
        bad("type 31", x -> x.type(31));
        bad("type 127", x -> x.type(127));
        bad("count 10", x -> x.count(10));
        bad("hears 2", x -> x.hears(2, 0));
        bad("hears at 36", x -> x.hears(0, 36));
        bad("lots 0", x -> x.lots(0));
        bad("lots 31", x -> x.lots(31));
        bad("seed -1", x -> x.seed(-1));
        bad("seed least", x -> x.seed(LEAST));
        bad("stand 2", x -> x.stand(2, 0));
        bad("stand news 3", x -> x.stand(0, 3));
        bad("cover 2", x -> x.cover(2, 0, -1));
        bad("cover news 3", x -> x.cover(0, 3, -1));
        bad("cover i 3", x -> x.cover(0, 0, 3));
        bad("orders 12", x -> x.orders(12));
        bad("years 0", x -> x.years(0, 0));
        bad("years 31", x -> x.years(31, 0));
        bad("years what 2", x -> x.years(1, 2));
        bad("more 3", x -> x.more(3, 0));
        bad("more other 3", x -> x.more(0, 3));
        bad("sooner 3", x -> x.sooner(3, 0));
        bad("sooner what 2", x -> x.sooner(0, 2));
        bad("alone 2", x -> x.alone(2, 0));
        bad("alone grave 3", x -> x.alone(0, 3));
        badReadings(2, 36, 3);
    }

    private static void badNumbersOfSets() {
        int[] some = {LEAST, -1, 8, 1023, 1024, MOST};
        for (int v : some) {
            bad("news ahead " + v, x -> x.news(99, v, 0));
            bad("chance set " + v, x -> x.chance(0, 0, v, 0));
            bad("likeliest set " + v, x -> x.likeliest(0, v));
            bad("hidden set " + v, x -> x.hidden(0, v));
            bad("which set " + v, x -> x.which(v, 0, 0, 0, 1));
            if (v != 8 && v != 1023) bad("bar set " + v, x -> x.bar(0, v));
        }
        bad("news ahead of a later year", x -> x.news(4, 1, 0));
        bad("chance part 2", x -> x.chance(0, 0, 0, 2));
        bad("chance part -1", x -> x.chance(0, 0, 0, -1));
        bad("likeliest 2", x -> x.likeliest(2, 0));
        bad("likeliest -1", x -> x.likeliest(-1, 0));
        bad("hidden 2", x -> x.hidden(2, 0));
        bad("hidden -1", x -> x.hidden(-1, 0));
    }

    private static void badNumbersOfSheets() {
        int[] some = {LEAST, -1, 4, MOST};
        for (int v : some) {
            bad("which sheet", x -> x.which(0, v, 0, 0, 1));
            bad("which lane", x -> x.which(0, 0, v, 0, 1));
            bad("judged sheet", x -> x.judged(v, 0, 0, 1));
            bad("judged lane", x -> x.judged(0, v, 0, 1));
            bad("film sheet", x -> x.film(v, 0, 0));
            bad("film lane", x -> x.film(0, v, 0));
            bad("sheet", x -> x.sheet(v, 0, 3));
            bad("sheet lane", x -> x.sheet(0, v, 3));
            bad("drop", x -> x.drop(v));
            bad("item sheet", x -> x.item(v, 0, 0, 7));
            bad("item lane", x -> x.item(0, v, 0, 7));
            bad("copy from", x -> x.copy(v, 0, 0, 0, 3));
            bad("copy to", x -> x.copy(0, 0, v, 0, 3));
        }
        int[] many = {LEAST, -1, 0, 13, MOST};
        for (int v : many) {
            bad("which n", x -> x.which(0, 0, 0, 0, v));
            bad("judged n", x -> x.judged(0, 0, 0, v));
        }
        bad("sheet 37", x -> x.sheet(0, 0, 37));
        bad("sheet most", x -> x.sheet(0, 0, MOST));
    }

    // ---- FULL, NONE, NOT

    private static void fullOnes() {
        Make full = StateTest::full;
        refused("eleventh grave", full, FULL, x -> x.grave(0, 0, 0));
        refused("thirteenth news", full, FULL, x -> x.news(99, 4095, 1));
        refused("fifth reader", full, FULL, x -> x.reader(0));
        refused("letter 161", full, FULL, x -> x.type('x'));
    }

    private static void fullOfReadings() {
        Make full = () -> read(0);
        refused("read", full, FULL, x -> x.read(0, 0, 0));
        refused("lots of 1", full, FULL, x -> x.lots(1));
        refused("lots of 30", full, FULL, x -> x.lots(30));
        refused("a day of one", full, 0, x -> {
            typed(x, "000a");
            return x.day();
        });
        Make almost = () -> read(2);
        refused("lots of 3", almost, FULL, x -> x.lots(3));
        due("lots of 2", almost.made().lots(2) >= 0 ? 1 : 0, 1);
        due("read", almost.made().read(0, 35, 0), 0);
        GraveNews x = almost.made();
        x.read(0, 35, 0);
        due("one more", x.read(0, 35, 0), 0);
        due("no more", x.read(0, 35, 0), FULL);
        due("but one undone", x.undo(), 9);
        due("one again", x.lots(1) >= 0 ? 1 : 0, 1);
        due("no more", x.lots(1), FULL);
    }

    private static void noneOnes() {
        refused("out of none", () -> {
            GraveNews x = rich();
            for (int k = 0; k < 3; k++) x.out();
            x.read(0, 0, 0);
            return x;
        }, NONE, x -> x.out());
        refused("undo of none", () -> {
            GraveNews x = rich();
            x.out();
            return x;
        }, NONE, x -> x.undo());
        refused("restore of none", () -> {
            GraveNews x = new GraveNews();
            x.grave(0, 0, 5);
            x.news(5, 0, 0);
            x.reader(2);
            x.read(0, 0, 0);
            return x;
        }, NONE, x -> x.restore());
        Make rich = StateTest::richWithTape;
        refused("stand", rich, NONE, x -> x.stand(1, 2));
        refused("cover of none", rich, NONE, x -> x.cover(1, 2, 0));
        Make never = () -> {
            GraveNews x = new GraveNews();
            x.grave(0, 0, 5);
            x.grave(0, 0, 5);
            x.news(5, 0, 0);
            x.reader(2);
            x.bar(0, 1);
            x.read(0, 35, 0);
            return x;
        };
        refused("stand", never, NONE, x -> x.stand(0, 0));
        refused("cover", never, NONE, x -> x.cover(0, 0, -1));
        refused("cover", never, NONE, x -> x.cover(0, 0, 2));
        refused("sooner", never, NONE, x -> x.sooner(0, 1));
        refused("alone", never, NONE, x -> x.alone(0, 0));
        refused("orders", rich, NONE, x -> x.orders(3));
        refused("years", () -> {
            GraveNews x = rich();
            x.now(0);
            return x;
        }, NONE, x -> x.years(1, 1));
        refused("judged", () -> {
            GraveNews x = rich();
            x.item(1, 1, 6, 20);
            return x;
        }, NONE, x -> x.judged(1, 1, 5, 1));
    }

    private static void notOnes() {
        Make calm = StateTest::calm;
        refused("chance", calm, NOT, x -> x.chance(0, 0, 1, 0));
        refused("chance below", calm, NOT, x -> x.chance(0, 0, 0, 1));
        refused("likeliest", calm, NOT, x -> x.likeliest(0, 1));
        refused("lots without both", StateTest::fresh, NOT, x -> x.lots(1));
        refused("lots without reader", () -> {
            GraveNews x = new GraveNews();
            x.news(5, 0, 0);
            return x;
        }, NOT, x -> x.lots(30));
        refused("lots without news", () -> {
            GraveNews x = new GraveNews();
            x.reader(3);
            return x;
        }, NOT, x -> x.lots(30));
        Make none = () -> {
            GraveNews x = rich();
            x.item(0, 0, 4, 36);
            return x;
        };
        refused("which", none, NOT, x -> x.which(1, 0, 0, 0, 2));
        refused("judged", none, NOT, x -> x.judged(0, 0, 0, 2));
    }

    // ---- what the machine finds

    private static void machineOnes() {
        Make rich = StateTest::richWithTape;
        refused("which NULL", rich, NULL, x -> x.which(1, 2, 0, 0, 1));
        refused("judged NULL", rich, NULL, x -> x.judged(2, 0, 0, 1));
        refused("film NULL", rich, NULL, x -> x.film(2, 0, 0));
        refused("drop NULL", rich, NULL, x -> x.drop(2));
        refused("item NULL", rich, NULL, x -> x.item(2, 0, 0, 7));
        refused("copy NULL", rich, NULL, x -> x.copy(2, 0, 0, 0, 1));
        refused("copy NULL", rich, NULL, x -> x.copy(0, 0, 2, 0, 1));
        refused("which CAST", rich, CAST, x -> x.which(1, 0, 1, 0, 1));
        refused("judged CAST", rich, CAST, x -> x.judged(0, 1, 0, 1));
        refused("film CAST", rich, CAST, x -> x.film(0, 1, 0));
        refused("item CAST", rich, CAST, x -> x.item(0, 1, 0, 7));
        refused("copy CAST", rich, CAST, x -> x.copy(0, 0, 1, 0, 3));
        int[] far = {LEAST, -1, 7, 1000, MOST};
        for (int v : far) {
            refused("which INDEX", rich, INDEX, x -> x.which(1, 0, 0, v, 1));
            refused("judged INDEX", rich, INDEX, x -> x.judged(0, 0, v, 1));
            refused("film INDEX", rich, INDEX, x -> x.film(0, 0, v));
            refused("item INDEX", rich, INDEX, x -> x.item(0, 0, v, 7));
            refused("copy i INDEX", rich, INDEX, x -> x.copy(0, v, 0, 0, 1));
            refused("copy j INDEX", rich, INDEX, x -> x.copy(0, 0, 0, v, 1));
            refused("copy n INDEX", rich, INDEX, x -> x.copy(0, 0, 0, 0, v));
        }
        refused("which INDEX", rich, INDEX, x -> x.which(1, 0, 0, 4, 1));
        refused("which INDEX", rich, INDEX, x -> x.which(1, 0, 0, 0, 3));
        refused("judged INDEX", rich, INDEX, x -> x.judged(0, 0, 1, 2));
        refused("film INDEX, where a part would fit", rich, INDEX, x -> x.film(0, 0, 4));
        refused("copy INDEX, where a part would fit", rich, INDEX, x -> x.copy(0, 0, 0, 4, 3));
        refused("sheet SIZE", rich, SIZE, x -> x.sheet(0, 0, -1));
        refused("sheet SIZE", rich, SIZE, x -> x.sheet(2, 3, LEAST));
    }

    // ---- FAULTS: all stays, but THE TAPE is empty

    private static void faulty(String text, int yard, int paper, int day) {
        Make rich = StateTest::rich;
        Call asYard = x -> {
            typed(x, text);
            return x.yard();
        };
        Call asPaper = x -> {
            typed(x, text);
            return x.paper();
        };
        Call asDay = x -> {
            typed(x, text);
            return x.day();
        };
        refused("yard \"" + text + "\"", rich, -20 - yard, asYard);
        refused("paper \"" + text + "\"", rich, -20 - paper, asPaper);
        refused("day \"" + text + "\"", rich, -20 - day, asDay);
    }

    private static void faults() {
        faulty("", 0, 0, 0);
        faulty("  ", 2, 2, 2);
        faulty("~", 0, 0, 0);
        faulty("p00@5,", 6, 0, 0);
        faulty("p00@5,n55@90", 10, 0, 0);
        faulty("5,6,", 0, 4, 0);
        faulty("5,6<b", 0, 4, 0);
        faulty("5!0,6!11", 0, 7, 0);
        faulty("000a;", 0, 3, 5);
        faulty("000a;055b;000d", 0, 3, 13);
        faulty("000a;055b;200a", 0, 3, 10);
    }

    // ---- of several the first that a call names

    private static void firstNamed() {
        Make full = StateTest::full;
        refused("BAD, FULL of grave", full, BAD, x -> x.grave(0, 36, 0));
        refused("BAD, FULL of reader", full, BAD, x -> x.reader(10));
        refused("BAD, FULL of news", full, BAD, x -> x.news(99, 4096, 0));
        refused("BAD, FULL of news", full, BAD, x -> x.news(0, 1, 0));
        refused("BAD, FULL of type", full, BAD, x -> x.type(127));
        refused("BAD, FULL of read", () -> read(0), BAD, x -> x.read(0, 0, 2));
        refused("BAD, FULL of lots", () -> read(0), BAD, x -> x.lots(31));
        refused("BAD, NOT of lots", StateTest::fresh, BAD, x -> x.lots(0));
        Make calm = StateTest::calm;
        refused("BAD, NOT of chance", calm, BAD, x -> x.chance(0, 0, 8, 0));
        refused("BAD, NOT of chance", calm, BAD, x -> x.chance(0, 0, 1, 2));
        refused("BAD, NOT of likeliest", calm, BAD, x -> x.likeliest(0, 8));
        Make rich = StateTest::rich;
        refused("BAD, NONE of cover", rich, BAD, x -> x.cover(1, 2, 3));
        refused("BAD, NONE of orders", rich, BAD, x -> x.orders(12));
        refused("BAD, NONE of years", rich, BAD, x -> x.years(31, 1));
        refused("BAD, NULL of which", rich, BAD, x -> x.which(8, 2, 0, -1, 1));
        refused("BAD, NULL of which", rich, BAD, x -> x.which(0, 2, 0, -1, 13));
        refused("NULL, INDEX of which", rich, NULL, x -> x.which(0, 2, 0, -1, 1));
        refused("CAST, INDEX of which", rich, CAST, x -> x.which(0, 0, 1, -1, 1));
        refused("INDEX, NOT of which", rich, INDEX, x -> x.which(0, 0, 0, 2, 2));
        refused("BAD, NULL of judged", rich, BAD, x -> x.judged(2, 0, -1, 0));
        refused("NULL, INDEX of judged", rich, NULL, x -> x.judged(2, 0, -1, 1));
        refused("CAST, INDEX of judged", rich, CAST, x -> x.judged(0, 1, -1, 1));
        refused("INDEX, NOT of judged", rich, INDEX, x -> x.judged(0, 0, 2, 2));
        refused("NULL, INDEX of film", rich, NULL, x -> x.film(2, 0, -1));
        refused("CAST, INDEX of film", rich, CAST, x -> x.film(0, 1, -1));
        refused("NULL, INDEX of item", rich, NULL, x -> x.item(2, 0, -1, 0));
        refused("CAST, INDEX of item", rich, CAST, x -> x.item(0, 1, -1, 0));
        refused("BAD, SIZE of sheet", rich, BAD, x -> x.sheet(4, 0, -1));
        refused("BAD, SIZE of sheet", rich, BAD, x -> x.sheet(0, 4, -1));
        refused("BAD, NULL of copy", rich, BAD, x -> x.copy(2, -1, 4, -1, -1));
        refused("NULL, INDEX of copy", rich, NULL, x -> x.copy(2, -1, 0, -1, -1));
        refused("NULL, INDEX of copy", rich, NULL, x -> x.copy(0, -1, 2, -1, -1));
        refused("CAST, INDEX of copy", rich, CAST, x -> x.copy(0, -1, 1, -1, -1));
    }

    // ---- what only asks

    private static void asked() {
        Make rich = StateTest::richWithTape;
        for (int k = 0; k < 10; k++) {
            int what = k;
            changesNothing("count", rich, x -> x.count(what));
            if (k < 8) changesNothing("told", rich, x -> x.told(1, what));
            if (k < 6) changesNothing("of", rich, x -> x.of(1, what));
            if (k < 4) changesNothing("cover", rich, x -> x.cover(0, 0, what - 1));
            if (k < 4) changesNothing("orders", rich, x -> x.orders(what - 1));
            if (k < 2) changesNothing("years", rich, x -> x.years(2, what));
            if (k < 2) changesNothing("chance", rich, x -> x.chance(0, 1, 3, what));
            if (k < 2) changesNothing("sooner", rich, x -> x.sooner(0, what));
            if (k < 3) changesNothing("stand", rich, x -> x.stand(0, what));
            if (k < 3) changesNothing("wronged", rich, x -> x.wronged(1, 0, what));
        }
        changesNothing("hears", rich, x -> x.hears(1, 0));
        changesNothing("likeliest", rich, x -> x.likeliest(0, 3));
        changesNothing("more", rich, x -> x.more(0, 1));
        changesNothing("hidden", rich, x -> x.hidden(0, 7));
        changesNothing("alone", rich, x -> x.alone(0, 2));
        changesNothing("which", rich, x -> x.which(1, 0, 0, 0, 2));
        changesNothing("judged", rich, x -> x.judged(0, 0, 0, 2));
        changesNothing("what is set to what it was", rich, x -> x.wind(2) + x.now(14) + x.seed(54321) + x.bar(2, 4));
    }

    // ---- a new object: nobody, no news

    private static void freshOnes() {
        Make fresh = StateTest::fresh;
        refused("out", fresh, NONE, x -> x.out());
        refused("undo", fresh, NONE, x -> x.undo());
        refused("restore", fresh, NONE, x -> x.restore());
        refused("bar", fresh, BAD, x -> x.bar(0, 0));
        refused("told", fresh, BAD, x -> x.told(0, 0));
        refused("of", fresh, BAD, x -> x.of(0, 0));
        refused("hears", fresh, BAD, x -> x.hears(0, 0));
        refused("wronged", fresh, BAD, x -> x.wronged(0, 0, 0));
        refused("read", fresh, BAD, x -> x.read(0, 0, 0));
        refused("stand", fresh, BAD, x -> x.stand(0, 0));
        refused("cover", fresh, BAD, x -> x.cover(0, 0, -1));
        refused("orders", fresh, 1, x -> x.orders(-1));
        refused("orders", fresh, NONE, x -> x.orders(0));
        refused("orders", fresh, NONE, x -> x.orders(11));
        refused("years", fresh, 0, x -> x.years(1, 0));
        refused("years", fresh, NONE, x -> x.years(1, 1));
        refused("chance", fresh, BAD, x -> x.chance(0, 0, 0, 0));
        refused("likeliest", fresh, BAD, x -> x.likeliest(0, 0));
        refused("more", fresh, BAD, x -> x.more(0, 0));
        refused("sooner", fresh, BAD, x -> x.sooner(0, 0));
        refused("hidden", fresh, BAD, x -> x.hidden(0, 0));
        refused("alone", fresh, BAD, x -> x.alone(0, 0));
        refused("yard", fresh, -20, x -> x.yard());
        refused("paper", fresh, -20, x -> x.paper());
        refused("day", fresh, -20, x -> x.day());
        refused("drop", fresh, NULL, x -> x.drop(0));
        for (int k = 0; k < 10; k++) {
            int what = k;
            refused("count", fresh, 0, x -> x.count(what));
        }
    }

    // ---- images

    private static GraveNews richWithImage() {
        GraveNews x = rich();
        x.image();
        return x;
    }

    private static void restored(String name, Call change) {
        refused("restore behind " + name, StateTest::richWithImage, 1, x -> {
            change.on(x);
            return x.restore();
        });
    }

    private static void imageKeepsAll() {
        restored("nothing", x -> 0);
        restored("grave", x -> x.grave(3, 20, 44));
        restored("out", x -> x.out());
        restored("out of all", x -> x.out() + x.out() + x.out());
        restored("out and grave", x -> x.out() + x.grave(5, 1, 1));
        restored("reader", x -> x.reader(5));
        restored("news", x -> x.news(9, 7, 1));
        restored("bar", x -> x.bar(0, 7));
        restored("wind", x -> x.wind(4));
        for (int w = 0; w < 5; w++) {
            int wind = w;
            restored("weight", x -> x.weight(wind, 9));
        }
        restored("now", x -> x.now(77));
        restored("seed", x -> x.seed(7));
        restored("read", x -> x.read(1, 0, 0));
        restored("undo", x -> x.undo());
        restored("undo of all", x -> x.undo() + x.undo() + x.undo() + x.undo() + x.undo());
        restored("undo and read", x -> x.undo() + x.undo() + x.read(1, 0, 1) + x.read(1, 0, 2));
        restored("twelve readings", x -> {
            for (int k = 0; k < 12; k++) x.read(k % 2, 3 * k, k % 3);
            return 0;
        });
        restored("lots", x -> x.lots(30));
        restored("a yard", x -> {
            typed(x, "n11@7,p55@8");
            return x.yard();
        });
        restored("news in place of all", x -> {
            typed(x, "7s!012,8<a,9,10");
            return x.paper();
        });
        restored("a day", x -> {
            typed(x, "100a;100b;029c");
            return x.day();
        });
        restored("orders that were counted", x -> x.news(9, 0, 0) + x.orders(-1));
        restored("an older restore", x -> x.out() + x.restore());
    }

    private static void imageKeepsNoSheetsNorTape() {
        Call[] changes = {x -> x.type('d'), x -> x.sheet(0, 3, 7), x -> x.sheet(3, 0, 0), x -> x.drop(1),
            x -> x.item(0, 0, 5, 1), x -> x.film(0, 0, 3), x -> x.copy(1, 0, 1, 2, 3)};
        for (Call change : changes) {
            refused("restore", () -> {
                GraveNews x = richWithImage();
                change.on(x);
                return x;
            }, 1, x -> x.restore());
        }
        refused("restore with letters on the tape", () -> {
            GraveNews x = richWithTape();
            x.image();
            x.yard();
            typed(x, "p12@3");
            x.restore();
            return x;
        }, 1, x -> x.restore());
        GraveNews x = richWithTape();
        x.image();
        due("the tape is a yard", x.yard(), 1);
        due("restore", x.restore(), 1);
        due("the tape stays empty", x.type('x'), 1);
    }

    private static void imageIsTheLatest() {
        GraveNews x = new GraveNews();
        due("none yet", x.restore(), NONE);
        for (int g = 0; g < 10; g++) {
            due("grave", x.grave(0, g, g), g);
            due("image", x.image(), 1);
        }
        for (int g = 0; g < 10; g++) x.out();
        due("restore", x.restore(), 1);
        due("the latest", x.count(0), 10);
        for (int g = 0; g < 10; g++) due("place", x.told(g, 1), g);
        x.out();
        due("image", x.image(), 1);
        due("restore", x.restore(), 1);
        due("the latest", x.count(0), 9);
    }
}
