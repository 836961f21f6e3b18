/** For each promise of the document: ordinary calls, the edges that it names, wrong inputs. */
public final class PromiseTest {
    private static final int BAD = -1, NOT = -2, FULL = -3, NONE = -4, NULL = -11, CAST = -12, INDEX = -13, SIZE = -14;
    private static final int[] WRONG_INTS = {Integer.MIN_VALUE, -1000, -2, Integer.MAX_VALUE, 1 << 30, 4096, 1024, 100};

    private static int wrong = 0;
    private static int promise = 0;

    private static void due(String call, long got, long want) {
        if (got == want) return;
        wrong++;
        System.out.println("promise " + promise + ": " + call + " answered " + got + ", due is " + want);
    }

    public static void main(String[] args) {
        promise = 1; newObject();
        promise = 2; grave();
        promise = 3; out();
        promise = 4; reader();
        promise = 5; news();
        promise = 6; bar();
        promise = 7; wind();
        promise = 8; weight();
        promise = 9; now();
        promise = 10; told();
        promise = 11; of();
        promise = 12; type();
        promise = 13; yard();
        promise = 14; paper();
        promise = 15; day();
        promise = 16; count();
        promise = 17; hears();
        promise = 18; wronged();
        promise = 19; read();
        promise = 20; undo();
        promise = 21; lots();
        promise = 22; seed();
        promise = 23; stand();
        promise = 24; cover();
        promise = 25; orders();
        promise = 26; years();
        promise = 27; chance();
        promise = 28; likeliest();
        promise = 29; more();
        promise = 30; sooner();
        promise = 31; hidden();
        promise = 32; alone();
        promise = 33; image();
        promise = 34; restore();
        promise = 35; which();
        promise = 36; judged();
        promise = 37; film();
        promise = 38; sheet();
        promise = 39; drop();
        promise = 40; item();
        promise = 41; copy();
        if (wrong != 0) System.exit(1);
    }

    // ---- helpers

    private static void typed(GraveNews x, String text) {
        for (int i = 0; i < text.length(); i++) x.type(text.charAt(i));
    }

    private static int yardOf(GraveNews x, String text) {
        typed(x, text);
        return x.yard();
    }

    private static int paperOf(GraveNews x, String text) {
        typed(x, text);
        return x.paper();
    }

    private static int dayOf(GraveNews x, String text) {
        typed(x, text);
        return x.day();
    }

    /** A yard and news that must be right, and readers of these reaches. */
    private static GraveNews parish(String yard, String paper, int... reaches) {
        GraveNews x = new GraveNews();
        if (!yard.isEmpty() && yardOf(x, yard) < 0) throw new IllegalStateException(yard);
        if (!paper.isEmpty() && paperOf(x, paper) < 0) throw new IllegalStateException(paper);
        for (int reach : reaches) x.reader(reach);
        return x;
    }

    private static void put(GraveNews x, int sheet, int lane, long... items) {
        for (int i = 0; i < items.length; i++) x.item(sheet, lane, i, items[i]);
    }

    // ---- 1 graves, news, readers

    private static void newObject() {
        GraveNews x = new GraveNews();
        for (int what = 0; what <= 9; what++) due("count(" + what + ")", x.count(what), 0);
        due("out", x.out(), NONE);
        due("undo", x.undo(), NONE);
        due("restore", x.restore(), NONE);
        due("wind", x.wind(0), 0);
        for (int w = 0; w < 5; w++) due("weight", x.weight(w, 1), 1);
        due("now", x.now(0), 0);
        due("seed", x.seed(7), 1);
        for (int s = 0; s < 4; s++) due("drop", x.drop(s), NULL);
        due("orders", x.orders(-1), 1);
        due("type", x.type('p'), 1);
        due("told", x.told(0, 0), BAD);
        due("of", x.of(0, 0), BAD);
    }

    private static void grave() {
        GraveNews x = new GraveNews();
        for (int v : WRONG_INTS) {
            due("grave kind", x.grave(v, 0, 0), BAD);
            due("grave place", x.grave(0, v, 0), BAD);
            due("grave year", x.grave(0, 0, v), BAD);
        }
        due("grave kind -1", x.grave(-1, 0, 0), BAD);
        due("grave kind 6", x.grave(6, 0, 0), BAD);
        due("grave place -1", x.grave(0, -1, 0), BAD);
        due("grave place 36", x.grave(0, 36, 0), BAD);
        due("grave year -1", x.grave(0, 0, -1), BAD);
        due("grave year 90", x.grave(0, 0, 90), BAD);
        due("none came", x.count(0), 0);
        int[][] rows = {{0, 0, 0}, {5, 35, 89}, {3, 17, 44}, {1, 17, 1}, {2, 17, 2}, {4, 6, 3}, {0, 1, 4}, {0, 2, 5},
            {0, 3, 6}, {5, 4, 7}};
        for (int g = 0; g < 10; g++) {
            due("grave " + g, x.grave(rows[g][0], rows[g][1], rows[g][2]), g);
            for (int k = 0; k < 3; k++) due("told", x.told(g, k), rows[g][k]);
        }
        due("grave 10", x.grave(0, 0, 0), FULL);
        due("BAD ahead of FULL", x.grave(6, 0, 0), BAD);
        due("count", x.count(0), 10);
    }

    private static void out() {
        GraveNews x = parish("p00@5,d11@6", "5,6", 9);
        x.read(0, 0, 0);
        x.read(0, 0, 0);
        due("wronged twice", x.told(1, 6), 1);
        due("out", x.out(), 1);
        due("nothing to be undone", x.count(7), 0);
        due("undo", x.undo(), NONE);
        due("readings stay", x.count(3), 2);
        due("gone", x.told(1, 0), BAD);
        due("the first stays", x.told(0, 3), 1);
        due("wrongs of all", x.count(9), 1);
        due("a new one", x.grave(1, 7, 6), 1);
        due("heard nothing", x.told(1, 3), 0);
        due("never wronged", x.told(1, 6), 0);
        due("of", x.of(0, 5), 1);
        x.read(0, 0, 1);
        due("out", x.out(), 1);
        due("out", x.out(), 0);
        x.read(0, 0, 1);
        due("undoable", x.count(7), 1);
        due("out of none", x.out(), NONE);
        due("refused, so nothing is changed", x.count(7), 1);
    }

    private static void reader() {
        GraveNews x = new GraveNews();
        for (int v : WRONG_INTS) due("reader", x.reader(v), BAD);
        due("reader -1", x.reader(-1), BAD);
        due("reader 10", x.reader(10), BAD);
        due("reader 0", x.reader(0), 0);
        due("reader 9", x.reader(9), 1);
        due("reader 5", x.reader(5), 2);
        due("count", x.count(2), 3);
        due("reader 1", x.reader(1), 3);
        due("reader fifth", x.reader(1), FULL);
        due("BAD ahead of FULL", x.reader(10), BAD);
        x.grave(0, 0, 0);
        due("reach 0", x.hears(0, 1), 0);
        due("reach 9", x.hears(1, 23), 1);
        due("reach 5", x.hears(2, 35), 0);
        due("reach 1", x.hears(3, 1), 1);
    }

    private static void news() {
        GraveNews x = new GraveNews();
        for (int v : WRONG_INTS) {
            due("news year", x.news(v, 0, 0), BAD);
            due("news ahead", x.news(0, v, 0), BAD);
            due("news short", x.news(0, 0, v), BAD);
        }
        due("news year -1", x.news(-1, 0, 0), BAD);
        due("news ahead of itself", x.news(0, 1, 0), BAD);
        due("news ahead -1", x.news(0, -1, 0), BAD);
        due("news short 2", x.news(0, 0, 2), BAD);
        due("news short -1", x.news(0, 0, -1), BAD);
        due("news", x.news(50, 0, 0), 0);
        due("ahead is later", x.news(49, 1, 0), BAD);
        due("ahead of like year", x.news(50, 1, 1), 1);
        due("no such", x.news(99, 4, 0), BAD);
        due("news", x.news(99, 3, 0), 2);
        int[][] all = {{50, 0, 0, 0}, {50, 1, 0, 1}, {99, 3, 0, 0}};
        for (int n = 0; n < 3; n++) {
            for (int k = 0; k < 4; k++) due("of " + n + " " + k, x.of(n, k), all[n][k]);
        }
        for (int n = 3; n < 12; n++) due("news", x.news(0, 0, 0), n);
        due("thirteenth", x.news(99, 4095, 0), FULL);
        due("BAD ahead of FULL", x.news(99, 4096, 0), BAD);
        due("BAD ahead of FULL, later", x.news(0, 1, 0), BAD);
        due("count", x.count(1), 12);
    }

    private static void bar() {
        GraveNews x = parish("p00@5,p01@5", "5,5", 9);
        for (int v : WRONG_INTS) {
            due("bar news", x.bar(v, 0), BAD);
            if (v != 100) due("bar set", x.bar(0, v), BAD);
        }
        due("bar -1", x.bar(-1, 0), BAD);
        due("bar 2", x.bar(2, 0), BAD);
        due("set -1", x.bar(0, -1), BAD);
        due("set 1024", x.bar(0, 1024), BAD);
        due("bar", x.bar(0, 1023), 0);
        due("bar", x.bar(0, 2), 1023);
        due("of", x.of(0, 2), 2);
        due("other", x.of(1, 2), 0);
        due("not owed", x.told(1, 4), 2);
        due("owed", x.told(0, 4), 3);
        due("wronged", x.wronged(0, 0, 0), 2);
        due("bar", x.bar(0, 0), 2);
        due("owed again", x.told(1, 4), 3);
    }

    private static void wind() {
        GraveNews x = new GraveNews();
        for (int v : WRONG_INTS) due("wind", x.wind(v), BAD);
        due("wind -1", x.wind(-1), BAD);
        due("wind 5", x.wind(5), BAD);
        int was = 0;
        for (int w = 4; w >= 0; w--) {
            due("wind", x.wind(w), was);
            due("count", x.count(8), w);
            was = w;
        }
    }

    private static void weight() {
        GraveNews x = new GraveNews();
        for (int v : WRONG_INTS) {
            due("weight wind", x.weight(v, 0), BAD);
            due("weight v", x.weight(0, v), BAD);
        }
        due("weight wind -1", x.weight(-1, 0), BAD);
        due("weight wind 5", x.weight(5, 0), BAD);
        due("weight -1", x.weight(0, -1), BAD);
        due("weight 10", x.weight(0, 10), BAD);
        for (int w = 0; w < 5; w++) {
            due("weight", x.weight(w, 9), 1);
            due("weight", x.weight(w, w), 9);
        }
        for (int w = 0; w < 5; w++) due("weight", x.weight(w, 0), w);
    }

    private static void now() {
        GraveNews x = parish("p00@0", "0", 9);
        for (int v : WRONG_INTS) due("now", x.now(v), BAD);
        due("now -1", x.now(-1), BAD);
        due("now", x.now(8), 0);
        due("not late", x.told(0, 7), 0);
        due("now", x.now(9), 8);
        due("late", x.told(0, 7), 1);
        due("now", x.now(99), 9);
        due("now", x.now(0), 99);
    }

    private static final String ALL_KINDS = "p22@10,d22@10,i22@10,e22@10,f22@10,n22@10";
    private static final String ALL_YEARS = "9,10,10s,18,18s,19s";

    private static void told() {
        GraveNews x = parish(ALL_KINDS, ALL_YEARS, 9);
        int[] owed = {30, 30, 20, 0, 24, 22};
        for (int g = 0; g < 6; g++) {
            due("kind", x.told(g, 0), g);
            due("place", x.told(g, 1), 14);
            due("year", x.told(g, 2), 10);
            due("heard", x.told(g, 3), 0);
            due("owed " + g, x.told(g, 4), owed[g]);
            due("arrears " + g, x.told(g, 5), owed[g]);
            due("wronged", x.told(g, 6), 0);
            due("late", x.told(g, 7), 0);
        }
        due("read", x.read(0, 14, 4), 55);
        due("heard", x.told(0, 3), 16);
        due("owed all the same", x.told(0, 4), 30);
        due("arrears", x.told(0, 5), 14);
        due("arrears of an infant", x.told(2, 5), 4);
        due("arrears of a foreign", x.told(4, 5), 8);
        x.now(19);
        due("late", x.told(0, 7), 1);
        due("a foreign is not", x.told(4, 7), 0);
        due("an empty is not", x.told(3, 7), 0);
        x.read(0, 14, 2);
        due("an infant is paid", x.told(2, 7), 0);
        due("wronged", x.told(0, 6), 0);
        for (int k = 0; k < 100; k++) x.read(0, 14, 4);
        due("wronged 99 at most", x.told(0, 6), 99);
        for (int v : WRONG_INTS) {
            due("told grave", x.told(v, 0), BAD);
            due("told what", x.told(0, v), BAD);
        }
        due("told 6", x.told(6, 0), BAD);
        due("told -1", x.told(-1, 0), BAD);
        due("what 8", x.told(0, 8), BAD);
        due("what -1", x.told(0, -1), BAD);
    }

    private static void of() {
        GraveNews x = parish(ALL_KINDS, ALL_YEARS, 1);
        int[] owed = {0, 35, 39, 19, 55, 0};
        int[] years = {9, 10, 10, 18, 18, 19};
        int[] isShort = {0, 0, 1, 0, 1, 1};
        for (int n = 0; n < 6; n++) {
            due("year", x.of(n, 0), years[n]);
            due("ahead", x.of(n, 1), 0);
            due("barred", x.of(n, 2), 0);
            due("short", x.of(n, 3), isShort[n]);
            due("owed " + n, x.of(n, 4), owed[n]);
            due("heard", x.of(n, 5), 0);
        }
        x.bar(4, 1 | 4);
        due("barred", x.of(4, 2), 5);
        due("barred is not owed", x.of(4, 4), 50);
        x.read(0, 15, 4);
        due("heard", x.of(4, 5), 37);
        due("owed all the same", x.of(4, 4), 50);
        for (int v : WRONG_INTS) {
            due("of news", x.of(v, 0), BAD);
            due("of what", x.of(0, v), BAD);
        }
        due("of 6", x.of(6, 0), BAD);
        due("of -1", x.of(-1, 0), BAD);
        due("what 6", x.of(0, 6), BAD);
        due("what -1", x.of(0, -1), BAD);
    }

    private static void type() {
        GraveNews x = new GraveNews();
        for (int v : WRONG_INTS) if (v != 100) due("type", x.type(v), BAD);
        due("type 31", x.type(31), BAD);
        due("type 127", x.type(127), BAD);
        due("type -1", x.type(-1), BAD);
        due("type 32", x.type(32), 1);
        due("type 126", x.type(126), 2);
        for (int k = 3; k <= 160; k++) due("type", x.type(' '), k);
        due("type 161", x.type(' '), FULL);
        due("BAD ahead of FULL", x.type(31), BAD);
        due("yard", x.yard(), -21);
        due("empty then", x.type('a'), 1);
    }

    private static void yard() {
        GraveNews x = parish("p00@5,p01@5", "5,6!01", 9);
        x.read(0, 0, 0);
        x.read(0, 0, 0);
        x.now(30);
        due("yard", yardOf(x, "n55@0 , f 5 0 @ 89, e05@7,i10@08"), 4);
        int[][] rows = {{5, 35, 0}, {4, 30, 89}, {3, 5, 7}, {2, 6, 8}};
        for (int g = 0; g < 4; g++) {
            for (int k = 0; k < 3; k++) due("told " + g + " " + k, x.told(g, k), rows[g][k]);
            due("nothing heard", x.told(g, 3), 0);
            due("nobody wronged", x.told(g, 6), 0);
        }
        due("undoable", x.count(7), 0);
        due("readings", x.count(3), 2);
        due("news keep what is barred", x.of(1, 2), 3);
        due("none more", x.told(4, 0), BAD);
        yardFaults(x);
        due("ten", yardOf(x, "p00@1,d00@1,i00@1,e00@1,f00@1,n00@1,p00@1,p00@1,p00@1,p00@1"), 10);
        due("kind", x.told(4, 0), 4);
        due("eleven", yardOf(x, "p00@1,d00@1,i00@1,e00@1,f00@1,n00@1,p00@1,p00@1,p00@1,p00@1,p00@1"), -79);
        x.read(0, 0, 0);
        due("a fault", yardOf(x, "q"), -20);
        due("all stays", x.count(7), 1);
        due("heard", x.told(0, 3), 1);
    }

    private static void yardFaults(GraveNews x) {
        Object[][] faults = {{"", 0}, {"   ", 3}, {"q", 0}, {" P00@1", 1}, {"p", 1}, {"p6", 1}, {"p06", 2}, {"p00", 3},
            {"p00@", 4}, {"p00@ ", 5}, {"p00@90", 4}, {"p00@ 090", 5}, {"p00@4294967296", 4}, {"p00@-1", 4}, {"p00@1,", 6},
            {"p00@1, ", 7}, {"p00@1;p00@1", 5}, {"p00@8 9", 6}, {"p00@1p", 5}, {",p00@1", 0}, {"p00@1,,", 6}, {"pp", 1},
            {"p0@", 2}, {"p000@1", 3}, {"p-1", 1}, {"p00@1,x", 6}, {"p00@89999999999999999999999", 4}, {"p00@a", 4},
            {"p00@:", 4}, {"p00@/", 4}, {"p:", 1}, {"p/", 1}};
        for (Object[] f : faults) due("yard \"" + f[0] + "\"", yardOf(x, (String) f[0]), -20 - (Integer) f[1]);
        due("all stays", x.count(0), 4);
        due("place", x.told(1, 1), 30);
    }

    private static void paper() {
        GraveNews x = parish("p00@5,p01@5", "5,6", 9);
        x.read(0, 0, 0);
        x.read(0, 0, 0);
        due("paper", paperOf(x, " 0 , 99 s < a ! 9 0 , 99 < b a , 5 ! 0123456789, 05s"), 5);
        int[][] rows = {{0, 0, 0, 0}, {99, 1, 513, 1}, {99, 3, 0, 0}, {5, 0, 1023, 0}, {5, 0, 0, 1}};
        for (int n = 0; n < 5; n++) {
            for (int k = 0; k < 4; k++) due("of " + n + " " + k, x.of(n, k), rows[n][k]);
        }
        for (int g = 0; g < 2; g++) {
            due("nothing heard", x.told(g, 3), 0);
            due("nobody wronged", x.told(g, 6), 0);
        }
        due("undoable", x.count(7), 0);
        due("readings", x.count(3), 2);
        due("graves", x.count(0), 2);
        paperFaults(x);
        x.read(0, 0, 0);
        due("a fault", paperOf(x, "1,"), -22);
        due("all stays", x.count(7), 1);
        due("heard", x.told(0, 3), 1);
        due("twelve", paperOf(x, "1,2,3,4,5,6,7,8,9,10,11,12s<abcdefghijk!0"), 12);
        due("ahead", x.of(11, 1), 2047);
        due("thirteen", paperOf(x, "1,2,3,4,5,6,7,8,9,10,11,12,13"), -20 - 26);
        due("orders", x.orders(0), 10);
    }

    private static void paperFaults(GraveNews x) {
        Object[][] faults = {{"", 0}, {"  ", 2}, {"s", 0}, {"100", 0}, {"1,100", 2}, {"1 2", 2}, {"1,", 2}, {"1ss", 2},
            {"1<", 2}, {"1<a", 2}, {"1,2<", 4}, {"1,2<b", 4}, {"1,2<aa", 5}, {"1,2<A", 4}, {"3,2<a", 4}, {"1,3,2<ab", 7},
            {"1!", 2}, {"1!a", 2}, {"1!:", 2}, {"1!/", 2}, {"1!00", 3}, {"1!0 0", 4}, {"1!0<a", 3}, {"1,2<as", 5}, {"1,2<a<", 5}, {"1!0s", 3},
            {"1;2", 1}, {"1,2s!", 5}, {"1,2<,3", 4}, {"1!,2", 2}, {"-1", 0}, {"1,2<!0", 4}, {"9999999999999", 0}, {"1,2<m", 4}};
        for (Object[] f : faults) due("paper \"" + f[0] + "\"", paperOf(x, (String) f[0]), -20 - (Integer) f[1]);
        due("all stays", x.count(1), 5);
        due("year", x.of(1, 0), 99);
    }

    private static void day() {
        GraveNews x = parish("p00@5,p55@5", "5,5<a", 1, 9);
        due("day", dayOf(x, "000a ; 1 0 0 a; 155b;054b"), 1);
        due("readings", x.count(3), 4);
        due("heard", x.told(0, 3), 1);
        due("heard", x.told(1, 3), 2);
        due("wronged", x.told(0, 6), 1);
        due("wronged", x.told(1, 6), 2);
        due("undoable", x.count(7), 4);
        due("undo", x.undo(), 3);
        due("undo", x.undo(), 2);
        due("undo", x.undo(), 1);
        due("undo", x.undo(), 0);
        due("nothing heard", x.told(0, 3) + x.told(1, 3), 0);
        Object[][] faults = {{"", 0}, {" ", 1}, {"2", 0}, {"06", 1}, {"006", 2}, {"000", 3}, {"000c", 3}, {"000a;", 5},
            {"000a,", 4}, {"000A", 3}, {"000a000a", 4}, {"000aa", 4}, {"000a;200a", 5}, {";", 0}, {"000a;;", 5}, {"a", 0}};
        for (Object[] f : faults) due("day \"" + f[0] + "\"", dayOf(x, (String) f[0]), -20 - (Integer) f[1]);
        due("nothing is done", x.count(3), 0);
        StringBuilder longest = new StringBuilder();
        for (int k = 0; k < 32; k++) longest.append(k == 0 ? "" : ";").append("005a");
        due("32 readings", dayOf(x, longest.toString()), 32);
        due("readings", x.count(3), 32);
        longest.append(";");
        due("one ; more", dayOf(x, longest.toString()), -180);
        GraveNews none = new GraveNews();
        due("no reader", dayOf(none, "000a"), -20);
        none.reader(1);
        due("no news", dayOf(none, "000a"), -23);
        dayTillFull();
    }

    private static void dayTillFull() {
        GraveNews x = parish("p00@5", "5,5", 0);
        for (int k = 0; k < 333; k++) x.lots(30);
        due("readings", x.count(3), 9990);
        for (int k = 0; k < 7; k++) x.read(0, 35, 0);
        x.wind(0);
        due("till one is refused", dayOf(x, "035a;035a;035a;035a"), 2);
        due("readings", x.count(3), 9999);
        due("none is done", dayOf(x, "035a"), 0);
        due("read", x.read(0, 35, 0), FULL);
        due("lots", x.lots(1), FULL);
        due("undo", x.undo(), 9);
        due("lots of two", x.lots(2), FULL);
        due("read", x.read(0, 35, 0), 0);
        for (int k = 9; k >= 0; k--) x.undo();
        due("readings", x.count(3), 9989);
        due("lots of eleven", x.lots(11), FULL);
        due("not more than 9999", x.lots(10) >= 0 ? 1 : 0, 1);
        due("readings", x.count(3), 9999);
    }

    private static void count() {
        GraveNews x = parish("p00@5,e00@5,p55@50,i11@5", "5,6s,14", 9, 1);
        int[] want = {4, 3, 2, 0, 3, 2, 0, 0, 0, 0};
        for (int k = 0; k < 10; k++) due("count " + k, x.count(k), want[k]);
        x.now(15);
        due("late", x.count(6), 2);
        x.wind(4);
        due("the wind", x.count(8), 4);
        x.read(0, 0, 1);
        x.read(0, 0, 1);
        int[] then = {4, 3, 2, 2, 1, 3, 1, 2, 4, 2};
        for (int k = 0; k < 8; k++) if (k != 6) due("count then " + k, x.count(k), then[k]);
        due("wronged all", x.count(9), Integer.bitCount(x.hears(0, 0)));
        x.now(14);
        due("late", x.count(6), 1);
        x.now(13);
        due("late", x.count(6), 0);
        for (int k = 0; k < 12; k++) x.read(1, 35, 1);
        due("ten may be undone", x.count(7), 10);
        due("readings", x.count(3), 14);
        for (int v : WRONG_INTS) due("count", x.count(v), BAD);
        due("count -1", x.count(-1), BAD);
        due("count 10", x.count(10), BAD);
    }

    // ---- 2 readings

    private static void hears() {
        GraveNews x = parish("p22@5", "", 2, 0);
        int[][] rows = {
            {0, 32, 0}, {0, 2, 1}, {0, 12, 1}, {0, 17, 0}, {0, 14, 1}, {0, 26, 1}, {0, 21, 1}, {0, 28, 0},
            {1, 32, 1}, {1, 2, 0}, {1, 12, 1}, {1, 17, 0}, {1, 14, 1}, {1, 28, 0}, {1, 27, 1}, {1, 7, 0},
            {2, 12, 1}, {2, 16, 0}, {2, 15, 1}, {2, 2, 1}, {2, 32, 0}, {2, 6, 1},
            {3, 2, 1}, {3, 26, 0}, {3, 20, 1}, {3, 1, 1}, {3, 12, 1}, {3, 17, 0},
            {4, 17, 1}, {4, 12, 0}, {4, 16, 1}, {4, 13, 1}, {4, 2, 1}, {4, 32, 0}};
        for (int[] r : rows) {
            x.wind(r[0]);
            due("wind " + r[0] + " place " + r[1], x.hears(0, r[1]), r[2]);
        }
        x.wind(1);
        due("carried to a reach of 0", x.hears(1, 20), 1);
        due("not carried against it", x.hears(1, 8), 0);
        due("not carried aside", x.hears(1, 15), 0);
        kindsHear();
        for (int v : WRONG_INTS) {
            due("hears reader", x.hears(v, 0), BAD);
            due("hears place", x.hears(0, v), BAD);
        }
        due("hears 2", x.hears(2, 0), BAD);
        due("hears -1", x.hears(-1, 0), BAD);
        due("place -1", x.hears(0, -1), BAD);
        due("place 36", x.hears(0, 36), BAD);
        due("nobody", parish("", "", 9).hears(0, 0), 0);
    }

    private static void kindsHear() {
        GraveNews x = parish(ALL_KINDS, "", 0, 1, 2);
        due("reach 0 there", x.hears(0, 14), 37);
        due("reach 1 there", x.hears(1, 14), 55);
        due("reach 1 beside", x.hears(1, 15), 37);
        due("reach 2 beside", x.hears(2, 15), 55);
        due("reach 2 two off", x.hears(2, 16), 37);
        due("reach 2 three off", x.hears(2, 17), 0);
        x.wind(3);
        due("no foreign in wind 3", x.hears(1, 14), 39);
        due("nor carried", x.hears(2, 2), 39);
        x.wind(1);
        due("carried", x.hears(1, 20), 55);
        due("carried to a reach of 0", x.hears(0, 20), 37);
    }

    private static void wronged() {
        GraveNews x = parish("p00@5,i00@5,e00@5,p00@6,p05@5", "5,6<a,5s!1", 1);
        due("what is ahead and owed", x.wronged(0, 0, 1), 1);
        due("barred", x.wronged(0, 0, 2), 2);
        due("none", x.wronged(0, 0, 0), 0);
        due("nothing is changed", x.count(3) + x.count(9), 0);
        x.read(0, 0, 0);
        due("already", x.wronged(0, 0, 0), 11);
        due("heard what is ahead", x.wronged(0, 0, 1), 0);
        due("another", x.wronged(0, 5, 1), 16);
        due("nobody hears", x.wronged(0, 35, 1), 0);
        x.bar(0, 16);
        due("what is ahead is not owed", x.wronged(0, 5, 1), 0);
        due("barred", x.wronged(0, 5, 0), 16);
        for (int v : WRONG_INTS) {
            due("wronged reader", x.wronged(v, 0, 0), BAD);
            due("wronged place", x.wronged(0, v, 0), BAD);
            due("wronged news", x.wronged(0, 0, v), BAD);
        }
        due("reader 1", x.wronged(1, 0, 0), BAD);
        due("place 36", x.wronged(0, 36, 0), BAD);
        due("news 3", x.wronged(0, 0, 3), BAD);
        due("news -1", x.wronged(0, 0, -1), BAD);
    }

    private static void read() {
        GraveNews x = parish("p00@5,d01@5,p05@5", "5,6<a", 1);
        due("read", x.read(0, 0, 1), 1);
        due("wronged", x.told(0, 6), 1);
        due("read", x.read(0, 1, 1), 3);
        due("wronged", x.told(0, 6), 2);
        due("wronged", x.told(1, 6), 1);
        due("heard", x.told(1, 3), 2);
        due("nobody", x.read(0, 35, 0), 0);
        due("readings", x.count(3), 3);
        due("read", x.read(0, 5, 0), 4);
        due("not wronged", x.told(2, 6), 0);
        due("read", x.read(0, 5, 1), 4);
        due("not wronged", x.told(2, 6), 0);
        due("paid", x.told(2, 5), 0);
        for (int v : WRONG_INTS) {
            due("read reader", x.read(v, 0, 0), BAD);
            due("read place", x.read(0, v, 0), BAD);
            due("read news", x.read(0, 0, v), BAD);
        }
        due("reader 1", x.read(1, 0, 0), BAD);
        due("place 36", x.read(0, 36, 0), BAD);
        due("place -1", x.read(0, -1, 0), BAD);
        due("news 2", x.read(0, 0, 2), BAD);
        due("refused", x.count(3), 5);
    }

    private static void undo() {
        GraveNews x = parish("p00@5,p01@5", "5,6<a", 1);
        x.read(0, 0, 1);
        x.read(0, 6, 0);
        x.read(0, 0, 0);
        due("heard", x.told(0, 3), 3);
        due("wronged", x.told(0, 6), 2);
        due("undo", x.undo(), 2);
        due("heard already stays", x.told(0, 3), 3);
        due("the other did not", x.told(1, 3), 2);
        due("wronged", x.told(0, 6), 1);
        due("readings", x.count(3), 2);
        due("undo", x.undo(), 1);
        due("heard", x.told(0, 3), 2);
        due("undo", x.undo(), 0);
        due("heard", x.told(0, 3), 0);
        due("wronged", x.count(9), 0);
        due("undo", x.undo(), NONE);
        due("readings", x.count(3), 0);
        for (int k = 0; k < 150; k++) x.read(0, 0, 0);
        due("wronged", x.told(0, 6), 99);
        for (int k = 9; k >= 0; k--) due("undo", x.undo(), k);
        due("ten are known", x.undo(), NONE);
        due("wronged, as it was", x.told(0, 6), 99);
        due("readings", x.count(3), 140);
        undoLeavesNothing();
    }

    private static void undoLeavesNothing() {
        GraveNews x = parish("p00@5", "5", 1);
        x.read(0, 0, 0);
        x.grave(0, 0, 5);
        x.news(6, 0, 0);
        x.reader(2);
        x.wind(2);
        due("stays to be undone", x.count(7), 1);
        yardOf(x, "p00@5");
        due("yard", x.undo(), NONE);
        x.read(0, 0, 0);
        paperOf(x, "5");
        due("paper", x.undo(), NONE);
        x.read(0, 0, 0);
        x.out();
        due("out", x.undo(), NONE);
        x.reader(1);
        x.seed(5);
        x.lots(3);
        int windThen = x.count(8);
        due("lots are undone", x.undo(), 2);
        due("the wind stays", x.count(8), windThen);
    }

    private static void lots() {
        GraveNews x = new GraveNews();
        due("no reader", x.lots(1), NOT);
        x.reader(3);
        due("no news", x.lots(1), NOT);
        x.news(5, 0, 0);
        due("lots 0", x.lots(0), BAD);
        due("lots 31", x.lots(31), BAD);
        for (int v : WRONG_INTS) due("lots", x.lots(v), BAD);
        due("BAD ahead of NOT", new GraveNews().lots(0), BAD);
        due("nobody there", x.lots(30), 30);
        due("readings", x.count(3), 30);
        due("undoable", x.count(7), 10);
        lotsAsRead();
    }

    /** The same by read(): the draws are done here by themselves. */
    private static void lotsAsRead() {
        String yard = "p00@5,d22@4,i33@6,n44@5,f12@5";
        String paper = "5s,6<a,7s<b,8!0,5s";
        GraveNews x = parish(yard, paper, 2, 4, 6);
        GraveNews y = parish(yard, paper, 2, 4, 6);
        long draw = 1;
        int[] some = {1, 2, 11, 29, 30};
        for (int n : some) {
            int clean = 0;
            for (int k = 0; k < n; k++) {
                int[] drawn = new int[4];
                int[] many = {5, 3, 36, 5};
                for (int d = 0; d < 4; d++) {
                    draw = (draw * 1103515245L + 12345L) % (1L << 31);
                    drawn[d] = (int) (draw / 65536 % many[d]);
                }
                y.wind(drawn[0]);
                if (y.wronged(drawn[1], drawn[2], drawn[3]) == 0) clean++;
                y.read(drawn[1], drawn[2], drawn[3]);
            }
            due("lots " + n, x.lots(n), clean);
            due("the wind stays", x.count(8), y.count(8));
            for (int g = 0; g < 5; g++) {
                due("heard", x.told(g, 3), y.told(g, 3));
                due("wronged", x.told(g, 6), y.told(g, 6));
                due("sooner", x.sooner(g, 0), y.sooner(g, 0));
            }
        }
        due("the draw", x.seed(0), draw);
    }

    private static void seed() {
        GraveNews x = parish("", "5", 1);
        due("seed", x.seed(-1), BAD);
        due("seed", x.seed(Integer.MIN_VALUE), BAD);
        due("seed", x.seed(Integer.MAX_VALUE), 1);
        due("seed", x.seed(0), Integer.MAX_VALUE);
        x.lots(1);
        long draw = 0;
        for (int k = 0; k < 4; k++) draw = (draw * 1103515245L + 12345L) & 0x7fffffffL;
        due("four draws", x.seed(1), draw);
    }

    private static void stand() {
        GraveNews x = parish("p00@5,p02@5,p40@5,p55@40", "5,5<a,5!1", 1, 9, 0);
        due("stand", x.stand(0, 0), 1);
        due("all", x.stand(1, 0), 0);
        due("of reach 0", x.stand(2, 0), 0);
        due("what is ahead", x.stand(0, 1), NONE);
        due("not where a barred one hears", x.stand(0, 2), 0);
        due("not at all", x.stand(1, 2), NONE);
        x.read(0, 0, 0);
        due("not where one heard", x.stand(0, 0), 2);
        x.read(0, 2, 0);
        due("the next", x.stand(0, 0), 18);
        due("then what is behind it", x.stand(0, 1), 1);
        x.read(0, 24, 0);
        due("none is in arrears", x.stand(0, 0), NONE);
        for (int v : WRONG_INTS) {
            due("stand reader", x.stand(v, 0), BAD);
            due("stand news", x.stand(0, v), BAD);
        }
        due("stand 3", x.stand(3, 0), BAD);
        due("stand -1", x.stand(-1, 0), BAD);
        due("news 3", x.stand(0, 3), BAD);
        due("news -1", x.stand(0, -1), BAD);
    }

    private static void covered(GraveNews x, int reader, int news, int... places) {
        due("cover", x.cover(reader, news, -1), places.length);
        for (int i = 0; i < 3; i++) due("cover " + i, x.cover(reader, news, i), i < places.length ? places[i] : NONE);
    }

    private static void noCover(GraveNews x, int reader, int news) {
        for (int i = -1; i < 3; i++) due("no cover " + i, x.cover(reader, news, i), NONE);
    }

    private static void cover() {
        GraveNews x = parish("p00@5,p02@5,p40@5,p55@40", "5,5<a,5!1,50", 1, 9, 0);
        covered(x, 0, 0, 1, 18);
        covered(x, 1, 0, 0);
        covered(x, 2, 0, 0, 2, 24);
        noCover(x, 0, 1);
        covered(x, 0, 2, 0, 18);
        noCover(x, 1, 2);
        covered(x, 0, 3);
        x.out();
        covered(x, 0, 3);
        x.grave(0, 35, 5);
        covered(x, 0, 0, 1, 18, 29);
        noCover(x, 2, 0);
        due("i -2", x.cover(0, 0, -2), BAD);
        due("i 3", x.cover(0, 0, 3), BAD);
        for (int v : WRONG_INTS) {
            due("cover reader", x.cover(v, 0, -1), BAD);
            due("cover news", x.cover(0, v, -1), BAD);
            due("cover i", x.cover(0, 0, v), BAD);
        }
        due("reader 3", x.cover(3, 0, 0), BAD);
        due("news 4", x.cover(0, 4, 0), BAD);
        due("BAD ahead of NONE", x.cover(2, 0, 3), BAD);
        coverOnce();
    }

    /** Nobody may hear it at two places: three graves in a row, of which each pair of places shares the middle one. */
    private static void coverOnce() {
        GraveNews x = parish("p00@5,p02@5,p04@5,e03@5", "5", 2);
        covered(x, 0, 0, 2);
        GraveNews y = parish("p00@5,p01@5,p02@5,p03@5", "5", 1);
        covered(y, 0, 0, 0, 3);
        GraveNews z = parish("p00@5,p02@5,i02@5,p04@5", "5", 1);
        covered(z, 0, 0, 0, 3);
        z.bar(0, 4);
        noCover(z, 0, 0);
    }

    private static void orders() {
        GraveNews x = new GraveNews();
        due("none", x.orders(0), NONE);
        due("i -2", x.orders(-2), BAD);
        due("i 12", x.orders(12), BAD);
        for (int v : WRONG_INTS) due("orders", x.orders(v), BAD);
        int ways = 1;
        for (int n = 0; n < 12; n++) {
            x.news(5, 0, 0);
            ways *= n + 1;
            due("orders of " + (n + 1), x.orders(-1), ways);
            due("the first", x.orders(0), n);
            due("the last", x.orders(n), 0);
            due("no more", x.orders(n + 1), n == 11 ? BAD : NONE);
        }
        due("of twelve", x.orders(-1), 479001600);
        paperOf(x, "5,5<a,5<a,5<bc,5");
        due("orders", x.orders(-1), 10);
        int[] last = {4, 0, 2, 1, 3};
        for (int i = 0; i < 5; i++) due("last " + i, x.orders(i), last[i]);
        due("no sixth", x.orders(5), NONE);
        x.image();
        paperOf(x, "5,5<a");
        due("a chain", x.orders(-1), 1);
        due("first", x.orders(0), 0);
        x.restore();
        due("as it was", x.orders(-1), 10);
        paperOf(x, "1,2,3,4<c,5<b");
        int[] next = {2, 3, 1, 4, 0};
        for (int i = 0; i < 5; i++) due("last " + i, x.orders(i), next[i]);
    }

    private static void years() {
        GraveNews x = parish("p00@5,p01@5,p02@7", "9,5,7,5", 9);
        due("years 1", x.years(1, 0), 10);
        due("years 3", x.years(3, 0), 4);
        due("years 5", x.years(5, 0), 2);
        due("years 30", x.years(30, 0), 1);
        due("none is late", x.years(1, 1), NONE);
        x.now(11);
        due("first late", x.years(1, 1), 1);
        due("by two", x.years(2, 1), NONE);
        x.now(13);
        due("first late", x.years(1, 1), 0);
        due("by two", x.years(2, 1), 1);
        due("by three", x.years(3, 1), 1);
        due("by four", x.years(4, 1), NONE);
        x.now(14);
        due("all are", x.years(30, 1), 0);
        x.read(0, 0, 1);
        x.read(0, 0, 3);
        due("paid", x.years(1, 0), 6);
        due("by one", x.years(1, 1), 2);
        x.now(15);
        due("by one", x.years(1, 1), 1);
        x.now(10);
        due("by one", x.years(1, 1), NONE);
        for (int v : WRONG_INTS) {
            due("years n", x.years(v, 0), BAD);
            due("years what", x.years(1, v), BAD);
        }
        due("n 0", x.years(0, 0), BAD);
        due("n 31", x.years(31, 0), BAD);
        due("what 2", x.years(1, 2), BAD);
        due("what -1", x.years(1, -1), BAD);
        due("nothing is owed", parish("p00@50", "5").years(1, 0), 0);
    }

    private static void fraction(GraveNews x, int reader, int place, int set, int above, int below) {
        due("chance above", x.chance(reader, place, set, 0), above);
        due("chance below", x.chance(reader, place, set, 1), below);
    }

    private static void chance() {
        GraveNews x = parish("p22@5,f22@5,e00@5", "", 2);
        fraction(x, 0, 14, 1, 1, 1);
        fraction(x, 0, 14, 2, 4, 5);
        fraction(x, 0, 14, 3, 4, 5);
        fraction(x, 0, 14, 0, 1, 1);
        fraction(x, 0, 14, 4, 0, 1);
        fraction(x, 0, 32, 1, 1, 5);
        fraction(x, 0, 2, 1, 4, 5);
        x.weight(0, 0);
        fraction(x, 0, 2, 1, 3, 4);
        x.weight(3, 3);
        fraction(x, 0, 14, 2, 1, 2);
        x.wind(3);
        fraction(x, 0, 14, 2, 1, 2);
        for (int w = 0; w < 5; w++) x.weight(w, 0);
        due("all are 0", x.chance(0, 14, 1, 0), NOT);
        due("all are 0", x.chance(0, 14, 1, 1), NOT);
        due("BAD ahead of NOT", x.chance(0, 14, 8, 0), BAD);
        x.weight(4, 9);
        fraction(x, 0, 14, 2, 1, 1);
        for (int v : WRONG_INTS) {
            due("chance reader", x.chance(v, 0, 0, 0), BAD);
            due("chance place", x.chance(0, v, 0, 0), BAD);
            due("chance set", x.chance(0, 0, v, 0), BAD);
            due("chance part", x.chance(0, 0, 0, v), BAD);
        }
        due("reader 1", x.chance(1, 0, 0, 0), BAD);
        due("place 36", x.chance(0, 36, 0, 0), BAD);
        due("set 8", x.chance(0, 0, 8, 0), BAD);
        due("set -1", x.chance(0, 0, -1, 0), BAD);
        due("part 2", x.chance(0, 0, 0, 2), BAD);
        due("part -1", x.chance(0, 0, 0, -1), BAD);
    }

    private static void likeliest() {
        GraveNews x = parish("p22@5,p24@5,e00@5", "", 2, 0);
        due("one", x.likeliest(0, 1), 8);
        due("both", x.likeliest(0, 3), 15);
        due("an empty set", x.likeliest(0, 0), 0);
        due("an empty grave", x.likeliest(0, 4), 0);
        due("reach 0", x.likeliest(1, 1), 14);
        for (int w = 0; w < 5; w++) x.weight(w, w == 3 ? 1 : 0);
        due("in wind 3", x.likeliest(1, 1), 8);
        due("in wind 3", x.likeliest(0, 1), 1);
        due("the wind that is now is no matter", x.wind(1), 0);
        due("in wind 3", x.likeliest(0, 1), 1);
        x.weight(3, 0);
        due("all are 0", x.likeliest(0, 1), NOT);
        due("BAD ahead of NOT", x.likeliest(0, 8), BAD);
        x.weight(1, 1);
        for (int v : WRONG_INTS) {
            due("likeliest reader", x.likeliest(v, 0), BAD);
            due("likeliest set", x.likeliest(0, v), BAD);
        }
        due("reader 2", x.likeliest(2, 0), BAD);
        due("set 8", x.likeliest(0, 8), BAD);
        due("set -1", x.likeliest(0, -1), BAD);
    }

    // ---- 3 what the dead know

    private static void more() {
        GraveNews x = parish("p00@5,p05@5", "5,6,7", 1, 9);
        x.read(0, 0, 0);
        x.read(0, 5, 1);
        x.read(1, 0, 2);
        due("more", x.more(0, 1), 1);
        due("more", x.more(1, 0), 2);
        due("than itself", x.more(0, 0), 0);
        for (int v : WRONG_INTS) {
            due("more grave", x.more(v, 0), BAD);
            due("more other", x.more(0, v), BAD);
        }
        due("more 2", x.more(2, 0), BAD);
        due("other 2", x.more(0, 2), BAD);
        due("more -1", x.more(-1, 0), BAD);
        due("other -1", x.more(0, -1), BAD);
    }

    private static void sooner() {
        GraveNews x = parish("p00@5,p05@5", "5,6<a,7<ab,8", 1, 9);
        due("none", x.sooner(0, 0), 0);
        due("none", x.sooner(0, 1), NONE);
        x.read(0, 0, 2);
        due("only one heard", x.sooner(0, 0), 0);
        x.read(0, 0, 1);
        due("one pair", x.sooner(0, 0), 1);
        due("b, c", x.sooner(0, 1), 102);
        x.read(0, 0, 0);
        due("three pairs", x.sooner(0, 0), 3);
        due("a, b", x.sooner(0, 1), 1);
        due("another", x.sooner(1, 0), 0);
        x.read(0, 0, 2);
        x.read(0, 0, 1);
        due("heard again, but first is first", x.sooner(0, 0), 3);
        x.read(0, 5, 0);
        x.read(0, 5, 2);
        x.read(0, 5, 0);
        due("a was first", x.sooner(1, 0), 0);
        x.read(0, 5, 1);
        due("b, c", x.sooner(1, 1), 102);
        x.undo();
        due("undone", x.sooner(1, 1), NONE);
        for (int v : WRONG_INTS) {
            due("sooner grave", x.sooner(v, 0), BAD);
            due("sooner what", x.sooner(0, v), BAD);
        }
        due("grave 2", x.sooner(2, 0), BAD);
        due("what 2", x.sooner(0, 2), BAD);
        due("what -1", x.sooner(0, -1), BAD);
    }

    private static void hidden() {
        GraveNews x = parish("p00@5,e22@5,p55@5", "", 1, 9);
        long all = (1L << 36) - 1;
        due("nobody", x.hidden(0, 0), all);
        due("an empty one", x.hidden(1, 2), all);
        due("one", x.hidden(0, 1), all & ~(1L | 2L | 64L));
        due("two", x.hidden(0, 5), all & ~(1L | 2L | 64L | 1L << 35 | 1L << 34 | 1L << 29));
        due("reach 9", x.hidden(1, 1), 1L << 35);
        x.wind(1);
        due("reach 9 in wind 1", x.hidden(1, 1), 0);
        due("in wind 1", x.hidden(0, 1), all & ~(1L | 2L | 64L | 128L | 1L << 12));
        for (int v : WRONG_INTS) {
            due("hidden reader", x.hidden(v, 0), BAD);
            due("hidden set", x.hidden(0, v), BAD);
        }
        due("set 8", x.hidden(0, 8), BAD);
        due("set -1", x.hidden(0, -1), BAD);
        due("reader 2", x.hidden(2, 0), BAD);
    }

    private static void alone() {
        GraveNews x = parish("p00@5,p02@5,e05@5,d02@5", "", 1, 9);
        due("alone", x.alone(0, 0), 0);
        due("alone", x.alone(0, 1), 3);
        due("an empty one", x.alone(0, 2), NONE);
        due("a double one beside", x.alone(0, 3), NONE);
        due("all hear", x.alone(1, 3), NONE);
        x.wind(4);
        due("in wind 4", x.alone(0, 1), 4);
        for (int v : WRONG_INTS) {
            due("alone reader", x.alone(v, 0), BAD);
            due("alone grave", x.alone(0, v), BAD);
        }
        due("reader 2", x.alone(2, 0), BAD);
        due("grave 4", x.alone(0, 4), BAD);
        due("grave -1", x.alone(0, -1), BAD);
    }

    private static void image() {
        GraveNews x = new GraveNews();
        due("image", x.image(), 1);
        x.grave(0, 0, 0);
        due("again", x.image(), 1);
        x.grave(0, 0, 0);
        due("restore", x.restore(), 1);
        due("as at the latest", x.count(0), 1);
    }

    private static void restore() {
        GraveNews x = parish("p00@5,p05@6", "5,6s<a!1", 1, 9);
        due("none", x.restore(), NONE);
        x.wind(2);
        x.weight(2, 7);
        x.now(20);
        x.seed(77);
        x.read(0, 0, 1);
        x.read(0, 0, 0);
        x.sheet(0, 2, 3);
        typed(x, "p00");
        x.image();
        long[] before = state(x);
        x.type('@');
        x.sheet(0, 1, 5);
        x.undo();
        x.undo();
        x.read(1, 0, 0);
        x.bar(0, 3);
        x.wind(4);
        x.weight(2, 1);
        x.weight(4, 0);
        x.now(1);
        x.grave(1, 1, 1);
        x.news(9, 0, 0);
        x.reader(4);
        x.lots(12);
        for (int k = 0; k < 2; k++) {
            due("restore", x.restore(), 1);
            long[] after = state(x);
            for (int i = 0; i < before.length; i++) due("state " + i, after[i], before[i]);
            due("the draw", x.seed(3), 77);
            due("now", x.now(5), 20);
            due("readers", x.hears(2, 0), BAD);
            x.out();
            x.out();
            due("the sheet is none of it", x.drop(0), k == 0 ? 5 : NULL);
        }
        due("nor the tape", x.type('1'), 5);
        due("yard", x.yard(), 1);
        x.restore();
        due("undo", x.undo(), 1);
        due("heard", x.told(0, 3), 2);
        due("undo", x.undo(), 0);
        due("heard", x.told(0, 3), 0);
        due("wronged", x.told(0, 6), 0);
    }

    private static long[] state(GraveNews x) {
        long[] all = new long[64];
        int at = 0;
        for (int k = 0; k < 10; k++) all[at++] = x.count(k);
        for (int g = 0; g < 2; g++) {
            for (int k = 0; k < 8; k++) all[at++] = x.told(g, k);
            all[at++] = x.sooner(g, 1);
        }
        for (int n = 0; n < 2; n++) {
            for (int k = 0; k < 6; k++) all[at++] = x.of(n, k);
        }
        for (int k = -1; k < 2; k++) all[at++] = x.orders(k);
        for (int p = 0; p < 2; p++) {
            all[at++] = x.chance(0, 1, 1, p);
            all[at++] = x.years(1, p);
        }
        all[at++] = x.hidden(0, 3);
        all[at++] = x.hidden(1, 3);
        return all;
    }

    // ---- 4 sheets

    private static void which() {
        GraveNews x = parish("p00@5,p01@5,p35@5,e00@5", "5,6<a,7", 1);
        x.sheet(0, 0, 36);
        put(x, 0, 0, 0, 0, 0, 0, 1, 1, 0, 29, 0, 0, 23, 2, 0, 0, 0);
        due("by one", x.which(1, 0, 0, 0, 1), 3);
        due("nothing", x.which(0, 0, 0, 0, 1), 12);
        due("by two", x.which(3, 0, 0, 0, 2), 3);
        due("by three", x.which(1, 0, 0, 0, 3), 4);
        due("by four", x.which(5, 0, 0, 0, 4), 4);
        due("twice", x.which(3, 0, 0, 0, 5), 3);
        due("from the second", x.which(2, 0, 0, 3, 1), 3);
        due("none", x.which(7, 0, 0, 0, 4), 0);
        due("what was heard so far", x.read(0, 0, 2), 3);
        due("is no matter", x.which(1, 0, 0, 0, 1), 3);
        due("by twelve", x.which(3, 0, 0, 0, 12), 3);
        x.wind(4);
        due("in the wind that is now", x.which(1, 0, 0, 3, 2), 4);
        x.wind(0);
        due("set 8", x.which(8, 0, 0, 0, 1), BAD);
        due("set -1", x.which(-1, 0, 0, 0, 1), BAD);
        due("sheet 4", x.which(0, 4, 0, 0, 1), BAD);
        due("sheet -1", x.which(0, -1, 0, 0, 1), BAD);
        due("lane 4", x.which(0, 0, 4, 0, 1), BAD);
        due("lane -1", x.which(0, 0, -1, 0, 1), BAD);
        due("n 0", x.which(0, 0, 0, 0, 0), BAD);
        due("n 13", x.which(0, 0, 0, 0, 13), BAD);
        due("BAD ahead of NULL", x.which(8, 1, 0, 0, 1), BAD);
        due("BAD ahead of NULL", x.which(0, 1, 0, 0, 13), BAD);
        due("NULL ahead of CAST", x.which(0, 1, 1, 99, 1), NULL);
        due("CAST ahead of INDEX", x.which(0, 0, 1, 99, 1), CAST);
        for (int v : WRONG_INTS) {
            due("which from", x.which(0, 0, 0, v, 1), INDEX);
            due("which n", x.which(0, 0, 0, 0, v), BAD);
        }
        due("from 34", x.which(0, 0, 0, 34, 1), INDEX);
        due("from 33", x.which(0, 0, 0, 33, 1), 12);
        due("from 1", x.which(0, 0, 0, 1, 12), INDEX);
        noReadings(x);
    }

    private static void noReadings(GraveNews x) {
        long[][] rows = {{1, 0, 0}, {-1, 0, 0}, {0, 36, 0}, {0, -1, 0}, {0, 0, 3}, {0, 0, -1}, {1L << 32, 0, 0},
            {0, 1L << 32, 0}, {0, 0, 1L << 32}, {Long.MIN_VALUE, 0, 0}, {0, Long.MAX_VALUE, 0}};
        x.sheet(3, 3, 6);
        for (long[] row : rows) {
            put(x, 3, 3, 0, 0, 0, row[0], row[1], row[2]);
            due("a reading is none", x.which(0, 3, 3, 0, 2), NOT);
            due("a reading is none", x.judged(3, 3, 0, 2), NOT);
            due("the first is one", x.which(1, 3, 3, 0, 1), 3);
            due("INDEX ahead of NOT", x.which(0, 3, 3, 4, 1), INDEX);
        }
    }

    private static void judged() {
        GraveNews x = parish("p00@5,p01@5,p35@5", "5,6<a,7!0", 1);
        x.sheet(1, 1, 36);
        put(x, 1, 1, 0, 0, 0, 0, 1, 1, 0, 29, 1, 0, 0, 0);
        due("one", x.judged(1, 1, 0, 1), NONE);
        due("two", x.judged(1, 1, 0, 2), NONE);
        due("three", x.judged(1, 1, 0, 3), 2);
        due("four", x.judged(1, 1, 0, 4), 2);
        due("the second alone", x.judged(1, 1, 3, 1), 0);
        due("nothing is changed", x.told(0, 3) + x.count(3) + x.count(9) + x.count(7), 0);
        put(x, 1, 1, 0, 0, 0, 0, 1, 0);
        due("twice", x.judged(1, 1, 0, 2), 1);
        x.read(0, 0, 0);
        due("already", x.judged(1, 1, 0, 2), 0);
        put(x, 1, 1, 0, 35, 2, 0, 0, 2);
        due("barred", x.judged(1, 1, 0, 2), 1);
        put(x, 1, 1, 0, 0, 2, 0, 36, 2);
        due("NOT ahead of one that is not clean", x.judged(1, 1, 0, 2), NOT);
        due("sheet 4", x.judged(4, 1, 0, 1), BAD);
        due("sheet -1", x.judged(-1, 1, 0, 1), BAD);
        due("lane 4", x.judged(1, 4, 0, 1), BAD);
        due("lane -1", x.judged(1, -1, 0, 1), BAD);
        due("n 0", x.judged(1, 1, 0, 0), BAD);
        due("n 13", x.judged(1, 1, 0, 13), BAD);
        due("BAD ahead of NULL", x.judged(0, 1, 0, 13), BAD);
        due("NULL", x.judged(0, 0, -1, 1), NULL);
        due("CAST", x.judged(1, 0, -1, 1), CAST);
        due("INDEX", x.judged(1, 1, -1, 1), INDEX);
        due("INDEX", x.judged(1, 1, 34, 1), INDEX);
        due("INDEX", x.judged(1, 1, 1, 12), INDEX);
        due("INDEX", x.judged(1, 1, Integer.MAX_VALUE, 12), INDEX);
    }

    private static void film() {
        GraveNews x = parish("p00@5,e00@5,p00@6", "5,6", 9);
        x.sheet(0, 2, 6);
        put(x, 0, 2, 9, 9, 9, 9, 9, 9);
        due("film", x.film(0, 2, 1), 3);
        x.reader(9);
        x.reader(9);
        x.reader(9);
        due("reader 3, place 0, news 2", x.judged(0, 2, 1, 1), NOT);
        x.news(5, 0, 0);
        due("reader 3, place 0, news 2", x.judged(0, 2, 1, 1), NONE);
        due("the first is as it was", x.judged(0, 2, 0, 1), NOT);
        x.item(0, 2, 0, 0);
        due("reader 0, place 3, news 0", x.which(1, 0, 2, 0, 1), 5);
        x.read(0, 0, 0);
        due("then", x.film(0, 2, 3), 3);
        due("reader 6 of arrears b and c", x.judged(0, 2, 3, 1), NOT);
        due("from 4", x.film(0, 2, 4), INDEX);
        due("from -1", x.film(0, 2, -1), INDEX);
        due("from far", x.film(0, 2, Integer.MAX_VALUE), INDEX);
        due("sheet 4", x.film(4, 2, 0), BAD);
        due("sheet -1", x.film(-1, 2, 0), BAD);
        due("lane 4", x.film(0, 4, 0), BAD);
        due("lane -1", x.film(0, -1, 0), BAD);
        due("NULL", x.film(1, 2, -1), NULL);
        due("CAST", x.film(0, 1, -1), CAST);
        filmOfLowestBits();
    }

    private static void filmOfLowestBits() {
        GraveNews x = parish("p00@5,e00@5,e00@5", "20,20,20,20,20,20,20,20,5,5", 9);
        x.sheet(0, 0, 3);
        due("768 in a byte", x.film(0, 0, 0), 3);
        due("is 0", x.judged(0, 0, 0, 1), NONE);
        x.sheet(0, 1, 3);
        x.film(0, 1, 0);
        due("768 in a short", x.judged(0, 1, 0, 1), NOT);
        GraveNews none = new GraveNews();
        none.sheet(0, 0, 2);
        due("no graves", none.film(0, 0, 2), 0);
        due("no graves, INDEX", none.film(0, 0, 3), INDEX);
    }

    private static void sheet() {
        GraveNews x = parish("p00@5", "5", 9);
        for (int s = 0; s < 4; s++) {
            for (int lane = 0; lane < 4; lane++) {
                due("sheet", x.sheet(s, lane, 36 - lane), 36 - lane);
                due("item", x.item(s, lane, 0, 1), 1);
            }
            due("a new row", x.sheet(s, s, 3), 3);
            due("of zeroes", x.judged(s, s, 0, 1), NONE);
            due("of its lane", x.item(s, (s + 1) % 4, 0, 1), CAST);
            due("of its length", x.item(s, s, 3, 1), INDEX);
        }
        due("of none", x.sheet(0, 0, 0), 0);
        due("drop", x.drop(0), 0);
        x.sheet(0, 0, 1);
        due("n -1", x.sheet(0, 1, -1), SIZE);
        due("n least", x.sheet(0, 1, Integer.MIN_VALUE), SIZE);
        due("n 37", x.sheet(0, 1, 37), BAD);
        due("n most", x.sheet(0, 1, Integer.MAX_VALUE), BAD);
        due("sheet 4", x.sheet(4, 1, -1), BAD);
        due("sheet -1", x.sheet(-1, 1, 1), BAD);
        due("lane 4", x.sheet(0, 4, -1), BAD);
        due("lane -1", x.sheet(0, -1, 1), BAD);
        due("refused", x.drop(0), 1);
    }

    private static void drop() {
        GraveNews x = new GraveNews();
        due("drop", x.drop(0), NULL);
        x.sheet(0, 3, 36);
        x.sheet(1, 2, 7);
        due("drop", x.drop(0), 36);
        due("drop", x.drop(0), NULL);
        due("item", x.item(0, 3, 0, 0), NULL);
        due("drop", x.drop(1), 7);
        due("drop 4", x.drop(4), BAD);
        due("drop -1", x.drop(-1), BAD);
        for (int v : WRONG_INTS) due("drop", x.drop(v), BAD);
    }

    private static void item() {
        GraveNews x = parish("p00@5", "5,5", 9);
        int[] bits = {8, 16, 32};
        for (int lane = 0; lane < 3; lane++) {
            x.sheet(lane, lane, 3);
            due("item", x.item(lane, lane, 2, 1L + (1L << bits[lane])), 1);
            due("its lowest bits", x.which(2, lane, lane, 0, 1), 1);
            due("item", x.item(lane, lane, 2, (1L << bits[lane] - 1)), 1);
            due("which are below 0", x.which(0, lane, lane, 0, 1), NOT);
        }
        x.sheet(3, 3, 2);
        due("item", x.item(3, 3, 1, Long.MIN_VALUE), 1);
        due("INDEX", x.item(3, 3, 2, 0), INDEX);
        due("INDEX", x.item(3, 3, -1, 0), INDEX);
        due("INDEX", x.item(3, 3, Integer.MAX_VALUE, 0), INDEX);
        due("CAST", x.item(3, 2, -1, 0), CAST);
        x.drop(3);
        due("NULL", x.item(3, 2, -1, 0), NULL);
        due("BAD", x.item(3, 4, -1, 0), BAD);
        due("BAD", x.item(3, -1, -1, 0), BAD);
        due("BAD", x.item(4, 0, 0, 0), BAD);
        due("BAD", x.item(-1, 0, 0, 0), BAD);
    }

    private static void copy() {
        GraveNews x = parish("p00@5,p10@5", "5,5,5", 0);
        x.sheet(0, 0, 6);
        x.sheet(1, 0, 6);
        put(x, 0, 0, 0, 6, 1, 0, 0, 2);
        due("copy", x.copy(0, 3, 1, 0, 3), 3);
        due("reader 0, place 0, news c", x.which(4, 1, 0, 0, 1), 1);
        due("copy", x.copy(0, 0, 1, 3, 3), 3);
        due("reader 0, place 6, news b", x.which(2, 1, 0, 3, 1), 2);
        due("copy within", x.copy(0, 0, 0, 1, 3), 3);
        due("as if all were taken ahead: 0 0 6 1 0 2", x.which(0, 0, 0, 0, 1), NOT);
        x.item(0, 0, 2, 0);
        due("0 0 0", x.which(1, 0, 0, 0, 1), 1);
        x.sheet(2, 0, 6);
        put(x, 2, 0, 0, 0, 6, 1, 9, 9);
        due("copy down", x.copy(2, 1, 2, 0, 3), 3);
        due("0 6 1", x.which(2, 2, 0, 0, 1), 2);
        due("none", x.copy(0, 6, 1, 6, 0), 0);
        due("INDEX", x.copy(0, 7, 1, 0, 0), INDEX);
        due("INDEX", x.copy(0, 0, 1, 7, 0), INDEX);
        due("INDEX", x.copy(0, 0, 1, 0, 7), INDEX);
        due("INDEX", x.copy(0, 1, 1, 0, 6), INDEX);
        due("INDEX", x.copy(0, 0, 1, 1, 6), INDEX);
        due("INDEX", x.copy(0, -1, 1, 0, 1), INDEX);
        due("INDEX", x.copy(0, 0, 1, -1, 1), INDEX);
        due("INDEX", x.copy(0, 0, 1, 0, -1), INDEX);
        due("INDEX", x.copy(0, 1, 1, 0, Integer.MAX_VALUE), INDEX);
        due("INDEX", x.copy(0, Integer.MAX_VALUE, 1, 0, Integer.MAX_VALUE), INDEX);
        due("INDEX", x.copy(0, 0, 1, 0, Integer.MIN_VALUE), INDEX);
        due("NULL", x.copy(0, -1, 3, 0, 1), NULL);
        due("NULL", x.copy(3, -1, 0, 0, 1), NULL);
        x.sheet(3, 1, 6);
        due("CAST", x.copy(0, -1, 3, 0, 1), CAST);
        due("BAD", x.copy(4, -1, 3, 0, 1), BAD);
        due("BAD", x.copy(0, -1, 4, 0, 1), BAD);
        due("BAD", x.copy(-1, -1, 3, 0, 1), BAD);
        due("BAD", x.copy(0, -1, -1, 0, 1), BAD);
    }
}
