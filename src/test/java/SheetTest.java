/** Sheets: what each call that takes one may name, on both sides of each boundary, and what its items become. */
public final class SheetTest {
    private static final int BAD = -1, NOT = -2, NONE = -4, NULL = -11, CAST = -12, INDEX = -13, SIZE = -14;

    private static int wrong = 0;
    private static String sentence = "";

    private static void says(String words) {
        sentence = words;
    }

    private static void due(String call, long got, long want) {
        if (got == want) return;
        wrong++;
        System.out.println(sentence + ": " + call + " answered " + got + ", due is " + want);
    }

    public static void main(String[] args) {
        nothingAtFirst();
        sheetsAndLanes();
        items();
        sheetNewRow();
        dropHowMany();
        itemIndex();
        itemLowestBits();
        readingsMany();
        readingsFrom();
        readingsOfLanes();
        aReadingIsNone();
        whichSets();
        whichInWinds();
        judgedFirst();
        judgedOneBehindTheOther();
        judgedChangesNothing();
        filmOfAll();
        filmFrom();
        filmLowestBits();
        copyBounds();
        copyAsIfTakenAhead();
        copyRefusals();
        if (wrong != 0) System.exit(1);
    }

    // ---- helpers

    /** A plain grave at 0, a reader of reach 9, twelve news: an item that is a NEWS can be told by which(). */
    private static GraveNews parish() {
        GraveNews x = new GraveNews();
        x.grave(0, 0, 5);
        x.reader(9);
        for (int n = 0; n < 12; n++) x.news(5, 0, 0);
        return x;
    }

    private static void put(GraveNews x, int sheet, int lane, long... items) {
        for (int i = 0; i < items.length; i++) due("put", x.item(sheet, lane, i, items[i]), 1);
    }

    /** Item 2 of a row that begins with 0, 0, if it is 0 .. 11; NOT, if it is none of these. */
    private static int third(GraveNews x, int sheet, int lane, int from) {
        for (int n = 0; n < 12; n++) {
            int graves = x.which(1 << n, sheet, lane, from, 1);
            if (graves != 0) return graves == 1 ? n : graves;
        }
        return -99;
    }

    /** An item of a sheet, brought to sheet 3, if it is 0 .. 11; NOT, if it is none of these. */
    private static int at(GraveNews x, int sheet, int lane, int i) {
        x.sheet(3, lane, 3);
        due("brought", x.copy(sheet, i, 3, 2, 1), 1);
        return third(x, 3, lane, 0);
    }

    // ---- sheets

    private static void nothingAtFirst() {
        says("sheets 0 .. 3: nothing (at first)");
        for (int s = 0; s < 4; s++) {
            GraveNews x = parish();
            due("drop", x.drop(s), NULL);
            due("item", x.item(s, 0, 0, 0), NULL);
            due("film", x.film(s, 0, 0), NULL);
            due("which", x.which(0, s, 0, 0, 1), NULL);
            due("judged", x.judged(s, 0, 0, 1), NULL);
            due("copy", x.copy(s, 0, s, 0, 0), NULL);
        }
    }

    private static void sheetsAndLanes() {
        says("sheets 0 .. 3, LANES 0 .. 3");
        int[] others = {-1, 4, Integer.MIN_VALUE, Integer.MAX_VALUE};
        GraveNews x = parish();
        for (int s = 0; s < 4; s++) due("sheet", x.sheet(s, s, 12), 12);
        for (int no : others) {
            due("sheet", x.sheet(no, 0, 3), BAD);
            due("sheet lane", x.sheet(0, no, 3), BAD);
            due("drop", x.drop(no), BAD);
            due("item", x.item(no, 0, 0, 0), BAD);
            due("item lane", x.item(0, no, 0, 0), BAD);
            due("film", x.film(no, 0, 0), BAD);
            due("film lane", x.film(0, no, 0), BAD);
            due("which", x.which(0, no, 0, 0, 1), BAD);
            due("which lane", x.which(0, 0, no, 0, 1), BAD);
            due("judged", x.judged(no, 0, 0, 1), BAD);
            due("judged lane", x.judged(0, no, 0, 1), BAD);
            due("copy from", x.copy(no, 0, 0, 0, 1), BAD);
            due("copy to", x.copy(0, 0, no, 0, 1), BAD);
        }
        for (int s = 0; s < 4; s++) {
            for (int lane = 0; lane < 4; lane++) {
                due("item", x.item(s, lane, 11, 0), s == lane ? 1 : CAST);
                due("film", x.film(s, lane, 11), s == lane ? 1 : CAST);
                due("judged", x.judged(s, lane, 0, 1), s == lane ? NONE : CAST);
                due("which", x.which(1, s, lane, 0, 1), s == lane ? 1 : CAST);
                due("copy", x.copy(s, 0, lane, 0, 1), s == lane ? 1 : CAST);
            }
        }
    }

    private static void items() {
        says("of 0 to 36 items. BAD: also n above 36; SIZE: n below 0");
        GraveNews x = parish();
        for (int n = -2; n <= 38; n++) {
            due("sheet of " + n, x.sheet(0, 0, n), n < 0 ? SIZE : n > 36 ? BAD : n);
            if (n > 0 && n <= 36) due("the last item", x.item(0, 0, n - 1, 1), 1);
            if (n >= 0 && n <= 36) due("no more", x.item(0, 0, n, 1), INDEX);
        }
        due("least", x.sheet(0, 0, Integer.MIN_VALUE), SIZE);
        due("most", x.sheet(0, 0, Integer.MAX_VALUE), BAD);
        due("what is refused leaves the row", x.item(0, 0, 35, 1), 1);
        due("BAD is named ahead of SIZE", x.sheet(4, 0, -1), BAD);
        due("BAD is named ahead of SIZE", x.sheet(0, 4, -1), BAD);
        due("the row is there", x.drop(0), 36);
        due("SIZE makes none", x.sheet(0, 0, -1), SIZE);
        due("none is there", x.drop(0), NULL);
    }

    private static void sheetNewRow() {
        says("A SHEET holds a new row of a LANE");
        GraveNews x = parish();
        x.sheet(0, 2, 6);
        x.sheet(1, 2, 6);
        put(x, 0, 2, 0, 0, 7, 0, 0, 8);
        put(x, 1, 2, 0, 0, 9);
        due("was", third(x, 0, 2, 0), 7);
        due("new", x.sheet(0, 2, 6), 6);
        due("zeroes", third(x, 0, 2, 0), 0);
        due("zeroes", third(x, 0, 2, 3), 0);
        due("the other one stays", third(x, 1, 2, 0), 9);
        due("of another lane", x.sheet(1, 3, 3), 3);
        due("zeroes", third(x, 1, 3, 0), 0);
        due("no more of the old one", x.item(1, 2, 0, 0), CAST);
        due("drop", x.drop(1), 3);
        x.sheet(1, 3, 6);
        due("zeroes behind it too", third(x, 1, 3, 3), 0);
    }

    private static void dropHowMany() {
        says("A SHEET holds nothing: how many items it had");
        GraveNews x = new GraveNews();
        int[] sizes = {0, 1, 35, 36};
        for (int s = 0; s < 4; s++) x.sheet(s, 3 - s, sizes[s]);
        for (int s = 0; s < 4; s++) {
            due("drop", x.drop(s), sizes[s]);
            due("drop again", x.drop(s), NULL);
            for (int other = s + 1; other < 4; other++) due("others stay", x.copy(other, 0, other, 0, 0), 0);
        }
    }

    // ---- items

    private static void itemIndex() {
        says("Item i of a SHEET. BAD; NULL; CAST; INDEX");
        for (int size = 0; size <= 36; size++) {
            GraveNews x = new GraveNews();
            x.sheet(2, 1, size);
            for (int i = -1; i <= 37; i++) due("item " + i + " of " + size, x.item(2, 1, i, i), i >= 0 && i < size ? 1 : INDEX);
            due("least", x.item(2, 1, Integer.MIN_VALUE, 0), INDEX);
            due("most", x.item(2, 1, Integer.MAX_VALUE, 0), INDEX);
        }
        GraveNews x = parish();
        x.sheet(0, 0, 36);
        put(x, 0, 0, 0, 0, 1, 0, 0, 2);
        x.item(0, 0, 4, 0);
        x.item(0, 0, 35, 5);
        due("its own place", third(x, 0, 0, 0), 1);
        due("its own place", third(x, 0, 0, 3), 2);
        due("the last", third(x, 0, 0, 33), 5);
        due("all others are zeroes", third(x, 0, 0, 30), 0);
    }

    private static void itemLowestBits() {
        says("becomes v, its lowest bits");
        int[] bits = {8, 16, 32, 64};
        for (int lane = 0; lane < 4; lane++) {
            GraveNews x = parish();
            x.sheet(0, lane, 3);
            for (int bit = 4; bit < 64; bit++) {
                x.item(0, lane, 2, (1L << bit) + 3);
                due("bit " + bit + " of lane " + lane, third(x, 0, lane, 0), bit < bits[lane] ? NOT : 3);
            }
        }
        for (int lane = 0; lane < 4; lane++) {
            GraveNews x = parish();
            x.sheet(0, lane, 3);
            x.item(0, lane, 2, 11);
            due("11", third(x, 0, lane, 0), 11);
            x.item(0, lane, 2, 12);
            due("12 is no news", third(x, 0, lane, 0), NOT);
            x.item(0, lane, 2, -1);
            due("-1", third(x, 0, lane, 0), NOT);
            x.item(0, lane, 2, Long.MIN_VALUE);
            due("least", third(x, 0, lane, 0), lane < 3 ? 0 : NOT);
            x.item(0, lane, 2, Long.MAX_VALUE);
            due("most", third(x, 0, lane, 0), NOT);
            x.item(0, lane, 2, lane == 3 ? 7 : 7 - (1L << bits[lane]));
            due("7 less all of the lane", third(x, 0, lane, 0), 7);
        }
    }

    // ---- readings of a sheet

    private static void readingsMany() {
        says("by n READINGS (1 .. 12)");
        GraveNews x = parish();
        x.sheet(0, 0, 36);
        for (int n = -1; n <= 14; n++) {
            boolean is = n >= 1 && n <= 12;
            due("which by " + n, x.which(1, 0, 0, 0, n), is ? 1 : BAD);
            due("judged by " + n, x.judged(0, 0, 0, n), !is ? BAD : n == 1 ? NONE : 1);
        }
        due("least", x.which(1, 0, 0, 0, Integer.MIN_VALUE), BAD);
        due("most", x.which(1, 0, 0, 0, Integer.MAX_VALUE), BAD);
        due("three times it is 3", x.which(1, 0, 0, 0, 1431655766), BAD);
        due("least", x.judged(0, 0, 0, Integer.MIN_VALUE), BAD);
        due("most", x.judged(0, 0, 0, Integer.MAX_VALUE), BAD);
        due("three times it is 3", x.judged(0, 0, 0, 1431655766), BAD);
        for (int k = 0; k < 12; k++) x.item(0, 0, 3 * k + 2, k);
        for (int n = 1; n <= 12; n++) {
            due("each of " + n, x.which((1 << n) - 1, 0, 0, 0, n), 1);
            due("not one less", x.which((1 << n - 1) - 1, 0, 0, 0, n), 0);
            due("all are clean", x.judged(0, 0, 0, n), NONE);
        }
    }

    private static void readingsFrom() {
        says("three items each, from one on: INDEX");
        for (int size = 0; size <= 36; size += 4) {
            GraveNews x = parish();
            x.sheet(1, 2, size);
            for (int n = 1; n <= 12; n += n == 1 ? 3 : 4) {
                for (int from = -1; from <= size - 3 * n + 2 && from < 5; from++) {
                    boolean is = from >= 0 && from + 3 * n <= size;
                    due("which", x.which(1, 1, 2, from, n), is ? 1 : INDEX);
                    due("judged", x.judged(1, 2, from, n), !is ? INDEX : n == 1 ? NONE : 1);
                }
                int last = size - 3 * n;
                due("from the last", x.which(1, 1, 2, last, n), last >= 0 ? 1 : INDEX);
                due("from behind it", x.which(1, 1, 2, last + 1, n), INDEX);
                due("from behind it", x.judged(1, 2, last + 1, n), INDEX);
            }
            int[] far = {Integer.MIN_VALUE, Integer.MAX_VALUE, Integer.MAX_VALUE - 2, Integer.MIN_VALUE + 35, -3, 36, 37};
            for (int from : far) {
                due("far", x.which(1, 1, 2, from, 1), INDEX);
                due("far", x.judged(1, 2, from, 1), INDEX);
            }
        }
        GraveNews x = parish();
        x.sheet(0, 0, 5);
        put(x, 0, 0, 5, 0, 0, 6, 5);
        due("from 1", x.which(1 << 6, 0, 0, 1, 1), 1);
        due("from 2 it is no place 6 for nobody", x.which(1 << 5, 0, 0, 2, 1), 1);
        due("from 0 it is reader 5", x.which(1, 0, 0, 0, 1), NOT);
    }

    private static void readingsOfLanes() {
        says("taken as a row of a LANE");
        for (int lane = 0; lane < 4; lane++) {
            GraveNews x = new GraveNews();
            x.grave(0, 35, 5);
            for (int r = 0; r < 4; r++) x.reader(0);
            for (int n = 0; n < 12; n++) x.news(5, 0, 0);
            x.sheet(lane, lane, 3);
            put(x, lane, lane, 3, 35, 11);
            due("reader 3 at 35 reads l", x.which(1 << 11, lane, lane, 0, 1), 1);
            due("not another", x.which(0, lane, lane, 0, 1), 0);
            put(x, lane, lane, 3, 34, 11);
            due("nobody hears at 34", x.which(0, lane, lane, 0, 1), 1);
        }
    }

    private static void aReadingIsNone() {
        says("NOT: a READING is none");
        long[][] good = {{0, 0, 0}, {1, 35, 2}};
        long[][] none = {{2, 0, 0}, {-1, 0, 0}, {0, 36, 0}, {0, -1, 0}, {0, 0, 3}, {0, 0, -1}};
        for (int lane = 0; lane < 4; lane++) {
            GraveNews x = new GraveNews();
            x.grave(0, 0, 5);
            x.reader(0);
            x.reader(0);
            for (int n = 0; n < 3; n++) x.news(5, 0, 0);
            x.sheet(0, lane, 6);
            for (long[] row : good) {
                put(x, 0, lane, row[0], row[1], row[2], 0, 1, 0);
                due("is one", x.judged(0, lane, 0, 2), NONE);
            }
            for (long[] row : none) {
                put(x, 0, lane, 0, 0, 0, row[0], row[1], row[2]);
                due("the second", x.judged(0, lane, 0, 2), NOT);
                due("the second", x.which(0, 0, lane, 0, 2), NOT);
                due("it is not taken", x.judged(0, lane, 0, 1), NONE);
                put(x, 0, lane, row[0], row[1], row[2], 0, 0, 0);
                due("the first", x.judged(0, lane, 0, 2), NOT);
                due("the first", x.which(0, 0, lane, 0, 1), NOT);
                due("from the second on", x.judged(0, lane, 3, 1), NONE);
            }
        }
        says("a long is not cut to a READING");
        GraveNews x = parish();
        x.sheet(0, 3, 3);
        long[][] far = {{1L << 32, 0, 0}, {0, 1L << 32, 0}, {0, 0, 1L << 32}, {-1L << 32, 0, 0}, {0, 1L << 63, 0}, {0, 0, 1L << 40}};
        for (long[] row : far) {
            put(x, 0, 3, row);
            due("far", x.judged(0, 3, 0, 1), NOT);
            due("far", x.which(0, 0, 3, 0, 1), NOT);
        }
        says("NOT: no READER, no NEWS, so a READING is none");
        GraveNews y = new GraveNews();
        y.sheet(0, 0, 3);
        due("no reader", y.judged(0, 0, 0, 1), NOT);
        due("no reader", y.which(0, 0, 0, 0, 1), NOT);
        y.reader(1);
        due("no news", y.judged(0, 0, 0, 1), NOT);
        due("no news", y.which(0, 0, 0, 0, 1), NOT);
        y.news(5, 0, 0);
        due("now it is one", y.judged(0, 0, 0, 1), NONE);
        due("no graves", y.which(0, 0, 0, 0, 1), 0);
    }

    private static void whichSets() {
        says("for a set of NEWS. BAD: also NEWS that there are not");
        for (int news = 1; news <= 12; news++) {
            GraveNews x = new GraveNews();
            x.grave(0, 0, 5);
            x.reader(9);
            for (int n = 0; n < news; n++) x.news(5, 0, 0);
            x.sheet(0, 0, 3);
            x.item(0, 0, 2, news - 1);
            due("nothing", x.which(0, 0, 0, 0, 1), 0);
            due("the last", x.which(1 << news - 1, 0, 0, 0, 1), 1);
            due("all", x.which((1 << news) - 1, 0, 0, 0, 1), news == 1 ? 1 : 0);
            due("one that is not", x.which(1 << news, 0, 0, 0, 1), BAD);
            due("all and one that is not", x.which((2 << news) - 1, 0, 0, 0, 1), BAD);
            due("-1", x.which(-1, 0, 0, 0, 1), BAD);
            due("least", x.which(Integer.MIN_VALUE, 0, 0, 0, 1), BAD);
            due("most", x.which(Integer.MAX_VALUE, 0, 0, 0, 1), BAD);
        }
    }

    private static void whichInWinds() {
        says("WHICH: in the WIND that is now");
        GraveNews x = new GraveNews();
        x.grave(0, 14, 5);
        x.grave(1, 14, 5);
        x.grave(4, 14, 5);
        x.reader(1);
        x.news(5, 0, 0);
        x.sheet(0, 0, 6);
        put(x, 0, 0, 0, 20, 0, 0, 14, 0);
        int[] at20 = {1, 7, 1, 0, 1};
        for (int wind = 0; wind < 5; wind++) {
            x.wind(wind);
            due("at 20 in " + wind, x.which(1, 0, 0, 0, 1), at20[wind]);
            due("at 14 in " + wind, x.which(1, 0, 0, 3, 1), wind == 3 ? 3 : 7);
            due("nothing in " + wind, x.which(0, 0, 0, 0, 1), 7 & ~at20[wind]);
        }
    }

    private static void judgedFirst() {
        says("JUDGED: the first that is not CLEAN; NONE: all are CLEAN");
        for (int first = 0; first < 12; first++) {
            GraveNews x = parish();
            x.sheet(0, 1, 36);
            for (int k = 0; k < 12; k++) x.item(0, 1, 3 * k + 2, k);
            x.bar(first, 1);
            if (first < 11) x.bar(11, 1);
            due("the first", x.judged(0, 1, 0, 12), first);
            due("up to it", x.judged(0, 1, 0, first + 1), first);
            if (first > 0) due("ahead of it", x.judged(0, 1, 0, first), NONE);
            due("from it on", x.judged(0, 1, 3 * first, 12 - first), 0);
        }
        says("JUDGED: NOT of any of them is told, wherever");
        GraveNews x = parish();
        x.sheet(0, 1, 6);
        x.bar(0, 1);
        due("not clean", x.judged(0, 1, 0, 2), 0);
        x.item(0, 1, 4, 36);
        due("the second is none", x.judged(0, 1, 0, 2), NOT);
    }

    private static void judgedOneBehindTheOther() {
        says("JUDGED: one behind the other");
        GraveNews x = new GraveNews();
        x.grave(0, 0, 5);
        x.grave(0, 1, 5);
        x.reader(0);
        x.news(5, 0, 0);
        x.news(5, 1, 0);
        x.sheet(0, 0, 9);
        put(x, 0, 0, 0, 0, 0, 0, 0, 1, 0, 1, 1);
        due("b behind a is clean, but not where a was not heard", x.judged(0, 0, 0, 3), 2);
        due("b alone", x.judged(0, 0, 3, 1), 0);
        put(x, 0, 0, 0, 0, 0, 0, 1, 0, 0, 0, 0);
        due("a twice", x.judged(0, 0, 0, 3), 2);
        put(x, 0, 0, 0, 35, 1, 0, 35, 1, 0, 35, 0);
        due("where nobody hears", x.judged(0, 0, 0, 3), NONE);
        says("JUDGED: by what was HEARD so far");
        put(x, 0, 0, 0, 0, 1, 0, 0, 0, 0, 1, 1);
        due("b is too soon", x.judged(0, 0, 0, 1), 0);
        x.read(0, 0, 0);
        due("now it is not, but a is twice", x.judged(0, 0, 0, 3), 1);
    }

    private static void judgedChangesNothing() {
        says("JUDGED: nothing is changed");
        GraveNews x = new GraveNews();
        x.grave(0, 0, 5);
        x.reader(0);
        x.news(5, 0, 0);
        x.sheet(0, 0, 6);
        for (int k = 0; k < 3; k++) due("judged", x.judged(0, 0, 0, 2), 1);
        for (int k = 3; k < 10; k++) due("count " + k, x.count(k), k == 4 ? 1 : 0);
        due("heard", x.told(0, 3), 0);
        for (int k = 0; k < 333; k++) x.lots(30);
        x.lots(9);
        x.wind(0);
        due("when no READING may be any more", x.judged(0, 0, 0, 2) >= 0 ? 1 : 0, 1);
        due("which likewise", x.which(1, 0, 0, 0, 2), 1);
        due("readings", x.count(3), 9999);
    }

    // ---- films and copies

    private static void filmOfAll() {
        says("FILM: ARREARS of all GRAVES come to a SHEET: how many");
        GraveNews x = new GraveNews();
        x.reader(9);
        x.reader(9);
        for (int n = 0; n < 4; n++) x.news(5 + n, 0, 0);
        x.grave(3, 0, 5);
        x.grave(0, 0, 7);
        x.grave(0, 0, 8);
        x.sheet(0, 0, 3);
        due("of three", x.film(0, 0, 0), 3);
        due("0, 12, 8 is no reading", x.judged(0, 0, 0, 1), NOT);
        x.bar(3, 6);
        due("of three", x.film(0, 0, 0), 3);
        due("0, 4, 0 is one", x.which(1, 0, 0, 0, 1), 6);
        due("0, 4, 0 is one, and it wrongs nobody", x.judged(0, 0, 0, 1), NONE);
        GraveNews full = new GraveNews();
        for (int g = 0; g < 10; g++) full.grave(0, 0, 5);
        full.sheet(0, 0, 10);
        due("of ten", full.film(0, 0, 0), 10);
        due("of ten, from 1", full.film(0, 0, 1), INDEX);
        GraveNews nobody = new GraveNews();
        nobody.sheet(0, 0, 0);
        due("of none", nobody.film(0, 0, 0), 0);
    }

    private static void filmFrom() {
        says("FILM: from one on; INDEX");
        for (int graves = 0; graves <= 10; graves++) {
            for (int from = -1; from <= 13; from++) {
                GraveNews x = parish();
                x.out();
                for (int g = 0; g < graves; g++) x.grave(0, 0, 5);
                for (int n = 0; n < 12; n++) x.bar(n, n == 1 ? 0 : 1023);
                x.sheet(0, 2, 12);
                for (int i = 0; i < 12; i++) x.item(0, 2, i, 5);
                boolean is = from >= 0 && from + graves <= 12;
                due("film of " + graves + " from " + from, x.film(0, 2, from), is ? graves : INDEX);
                for (int i = 0; graves > 0 && i < 12; i++) {
                    boolean filmed = is && i >= from && i < from + graves;
                    x.sheet(1, 2, 3);
                    x.copy(0, i, 1, 2, 1);
                    due("item " + i, x.which(filmed ? 4 : 32, 1, 2, 0, 1), (1 << graves) - 1);
                }
            }
        }
        GraveNews x = parish();
        x.sheet(0, 2, 12);
        due("least", x.film(0, 2, Integer.MIN_VALUE), INDEX);
        due("most", x.film(0, 2, Integer.MAX_VALUE), INDEX);
        due("NULL", x.film(1, 2, -1), NULL);
        due("CAST", x.film(0, 1, -1), CAST);
    }

    /** Arrears of news b, i and l are 0 .. 0010 and 0001 0000 0000 and 1000 0000 0000: a byte keeps b alone. */
    private static void filmLowestBits() {
        says("FILM: their lowest bits");
        for (int lane = 0; lane < 4; lane++) {
            GraveNews x = parish();
            for (int n = 0; n < 12; n++) x.bar(n, n == 1 || n == 8 || n == 11 ? 0 : 1);
            due("arrears", x.told(0, 5), 2 | 256 | 2048);
            x.sheet(0, lane, 3);
            due("film", x.film(0, lane, 2), 1);
            due("in lane " + lane, third(x, 0, lane, 0), lane == 0 ? 2 : NOT);
            for (int n = 0; n < 12; n++) x.bar(n, n < 2 ? 0 : 1);
            due("film", x.film(0, lane, 2), 1);
            due("in lane " + lane, third(x, 0, lane, 0), 3);
        }
    }

    private static void copyBounds() {
        says("COPY: n items from i on come from j on; INDEX");
        for (int n = -1; n <= 6; n++) {
            for (int i = -1; i <= 6; i++) {
                for (int j = -1; j <= 6; j++) {
                    GraveNews x = parish();
                    x.sheet(0, 1, 5);
                    x.sheet(1, 1, 4);
                    for (int k = 0; k < 5; k++) x.item(0, 1, k, k + 1);
                    boolean is = n >= 0 && i >= 0 && j >= 0 && i + n <= 5 && j + n <= 4;
                    due("copy " + i + " " + j + " " + n, x.copy(0, i, 1, j, n), is ? n : INDEX);
                    for (int k = 0; k < 4; k++) {
                        due("item " + k, at(x, 1, 1, k), is && k >= j && k < j + n ? i + k - j + 1 : 0);
                    }
                }
            }
        }
        GraveNews x = new GraveNews();
        x.sheet(0, 0, 36);
        x.sheet(1, 0, 36);
        due("all", x.copy(0, 0, 1, 0, 36), 36);
        due("one more", x.copy(0, 0, 1, 0, 37), INDEX);
        int[] far = {Integer.MIN_VALUE, Integer.MAX_VALUE, Integer.MAX_VALUE - 35, Integer.MIN_VALUE + 36};
        for (int v : far) {
            due("i", x.copy(0, v, 1, 0, 1), INDEX);
            due("j", x.copy(0, 0, 1, v, 1), INDEX);
            due("n", x.copy(0, 0, 1, 0, v), INDEX);
            due("i and n", x.copy(0, v, 1, 0, Integer.MAX_VALUE), INDEX);
            due("j and n", x.copy(0, 0, 1, v, Integer.MAX_VALUE), INDEX);
            due("none from there", x.copy(0, v, 1, 0, 0), INDEX);
            due("none to there", x.copy(0, 0, 1, v, 0), INDEX);
        }
        due("none from the end to the end", x.copy(0, 36, 1, 36, 0), 0);
        due("none from behind the end", x.copy(0, 37, 1, 0, 0), INDEX);
        due("none to behind the end", x.copy(0, 0, 1, 37, 0), INDEX);
    }

    private static void copyAsIfTakenAhead() {
        says("COPY: to the same one, as if all were taken ahead");
        for (int i = 0; i <= 3; i++) {
            for (int j = 0; j <= 3; j++) {
                GraveNews x = parish();
                x.sheet(2, 3, 7);
                for (int k = 0; k < 7; k++) x.item(2, 3, k, k + 1);
                due("copy", x.copy(2, i, 2, j, 4), 4);
                for (int k = 0; k < 7; k++) due("item " + k, at(x, 2, 3, k), k >= j && k < j + 4 ? i + k - j + 1 : k + 1);
            }
        }
        says("COPY: to another one, which the first one does not follow");
        GraveNews x = parish();
        x.sheet(0, 0, 3);
        x.sheet(1, 0, 3);
        put(x, 0, 0, 0, 0, 4);
        x.copy(0, 0, 1, 0, 3);
        x.item(0, 0, 2, 5);
        due("the other one", third(x, 1, 0, 0), 4);
        x.drop(0);
        due("the other one", third(x, 1, 0, 0), 4);
    }

    private static void copyRefusals() {
        says("COPY: BAD; NULL (either); CAST: of unlike LANES; INDEX");
        GraveNews x = new GraveNews();
        x.sheet(0, 0, 3);
        x.sheet(1, 1, 3);
        due("BAD ahead of NULL", x.copy(4, 9, 2, 9, 9), BAD);
        due("BAD ahead of NULL", x.copy(2, 9, 4, 9, 9), BAD);
        due("NULL from", x.copy(2, 9, 0, 9, 9), NULL);
        due("NULL to", x.copy(0, 9, 2, 9, 9), NULL);
        due("NULL both", x.copy(2, 0, 3, 0, 0), NULL);
        due("CAST ahead of INDEX", x.copy(0, 9, 1, 9, 9), CAST);
        due("CAST even of none", x.copy(0, 0, 1, 0, 0), CAST);
        due("INDEX", x.copy(0, 9, 0, 9, 9), INDEX);
        due("to itself", x.copy(0, 0, 0, 0, 3), 3);
    }
}
