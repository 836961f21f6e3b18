/**
 * The document's Terms, sentence by sentence: each boundary that a sentence names, on both of its sides. No object is
 * used for more than 512 calls, as the document says nothing of later ones.
 */
public final class TermsTest {
    private static final int BAD = -1, NOT = -2, FULL = -3, NONE = -4;
    private static final int PLAIN = 0, DOUBLE = 1, INFANT = 2, EMPTY = 3, FOREIGN = 4, ENEMY = 5;

    private static int wrong = 0;
    private static String sentence = "";

    private static void says(String words) {
        sentence = words;
    }

    private static void due(String call, long got, long want) {
        if (got == want) return;
        wrong++;
        System.out.println(sentence + ": " + call + " answered " + got + ", due is " + want);
    }

    public static void main(String[] args) {
        places();
        gravesSeveralAtOnePlace();
        graveNumbers();
        graveKindsPlacesYears();
        newsNumbers();
        newsYears();
        newsAhead();
        newsAheadOfNoLaterYear();
        newsShort();
        newsBarred();
        readers();
        winds();
        farByWinds();
        kindsHear();
        doubleByReachZero();
        foreignInWindThree();
        kindsOwed();
        enemyOfItsOwnYear();
        barredIsNeverOwed();
        wrongedIfBarred();
        wrongedIfHeardAlready();
        wrongedIfTooSoon();
        wrongedOnceByAReading();
        wrongedAsItWasAhead();
        allWhoHearHeard();
        wrongsNinetyNineAtMost();
        arrearsAndPaid();
        nowAndLate();
        standMostAndLeast();
        standClean();
        standNone();
        noPlaceBeyondThirtyFive();
        coverOfNone();
        coverFewest();
        coverFirstRow();
        coverEachReadingClean();
        coverByTryingAll();
        ordersHowMany();
        ordersLastRow();
        yearsHowMany();
        yearsRow();
        yearsTooLate();
        weights();
        chanceInLowestTerms();
        chanceOfAnyWeights();
        chanceOfAllOfASet();
        likeliestMostAndLeast();
        whichJustASet();
        moreThanAnother();
        soonerPairs();
        soonerFromReadingZero();
        soonerByTheFirstTime();
        hiddenAsASet();
        aloneJustOne();
        undoneTenKnown();
        undoneEachAsItWas();
        undoneAsIfItHadNotBeen();
        undoneByNothingElse();
        lotsDraw();
        lotsWindStays();
        lotsByOne();
        if (wrong != 0) System.exit(1);
    }

    // ---- helpers

    private static GraveNews with(int... reaches) {
        GraveNews x = new GraveNews();
        for (int reach : reaches) x.reader(reach);
        return x;
    }

    /** Graves by kind, place, year. */
    private static GraveNews graves(GraveNews x, int... rows) {
        for (int i = 0; i + 2 < rows.length; i += 3) x.grave(rows[i], rows[i + 1], rows[i + 2]);
        return x;
    }

    /** Plain graves of year 5 at these places. */
    private static GraveNews plain(GraveNews x, int... places) {
        for (int place : places) x.grave(PLAIN, place, 5);
        return x;
    }

    private static int typed(GraveNews x, String text) {
        for (int i = 0; i < text.length(); i++) x.type(text.charAt(i));
        return text.length();
    }

    // ---- 1

    private static void places() {
        says("PLACES 0 .. 35 are 6 times the ROW and the COLUMN");
        for (int row = 0; row < 6; row++) {
            for (int column = 0; column < 6; column++) {
                GraveNews x = with(0);
                typed(x, "p" + row + column + "@0");
                due("yard", x.yard(), 1);
                due("place of " + row + column, x.told(0, 1), 6 * row + column);
                for (int p = 0; p < 36; p++) due("hears at " + p, x.hears(0, p), p == 6 * row + column ? 1 : 0);
            }
        }
        GraveNews x = with(9);
        x.news(0, 0, 0);
        for (int p = -1; p <= 36; p++) {
            boolean is = p >= 0 && p < 36;
            due("hears at " + p, x.hears(0, p), is ? 0 : BAD);
            due("wronged at " + p, x.wronged(0, p, 0), is ? 0 : BAD);
            due("chance at " + p, x.chance(0, p, 0, 0), is ? 1 : BAD);
            due("read at " + p, x.read(0, p, 0), is ? 0 : BAD);
        }
        due("readings", x.count(3), 36);
    }

    private static void gravesSeveralAtOnePlace() {
        says("several may be at one");
        GraveNews x = with(0);
        for (int g = 0; g < 10; g++) due("grave", x.grave(PLAIN, 35, 89), g);
        due("hears", x.hears(0, 35), 1023);
        due("hears", x.hears(0, 34), 0);
    }

    private static void graveNumbers() {
        says("GRAVES 0 .. 9, as they come");
        GraveNews x = new GraveNews();
        for (int g = 0; g < 10; g++) {
            due("not there yet", x.told(g, 1), BAD);
            due("grave", x.grave(PLAIN, 3 * g, g), g);
            due("there", x.told(g, 1), 3 * g);
        }
        due("eleventh", x.grave(PLAIN, 0, 0), FULL);
        due("10", x.told(10, 1), BAD);
        due("-1", x.told(-1, 1), BAD);
        for (int g = 9; g >= 0; g--) {
            due("out", x.out(), g);
            due("gone", x.told(g, 1), BAD);
        }
        due("out of none", x.out(), NONE);
        due("the first again", x.grave(PLAIN, 0, 0), 0);
    }

    private static void graveKindsPlacesYears() {
        says("are at a PLACE, of a YEAR (0 .. 89), of a KIND");
        for (int kind = -1; kind <= 6; kind++) {
            GraveNews x = new GraveNews();
            due("kind " + kind, x.grave(kind, 0, 0), kind >= 0 && kind <= 5 ? 0 : BAD);
            due("told", x.told(0, 0), kind >= 0 && kind <= 5 ? kind : BAD);
        }
        for (int place = -1; place <= 36; place++) {
            GraveNews x = new GraveNews();
            due("place " + place, x.grave(0, place, 0), place >= 0 && place <= 35 ? 0 : BAD);
            due("told", x.told(0, 1), place >= 0 && place <= 35 ? place : BAD);
        }
        for (int year = -1; year <= 100; year++) {
            GraveNews x = new GraveNews();
            due("year " + year, x.grave(0, 0, year), year >= 0 && year <= 89 ? 0 : BAD);
            due("told", x.told(0, 2), year >= 0 && year <= 89 ? year : BAD);
        }
    }

    private static void newsNumbers() {
        says("NEWS 0 .. 11, as they come");
        GraveNews x = new GraveNews();
        for (int n = 0; n < 12; n++) {
            due("not there yet", x.of(n, 0), BAD);
            due("news", x.news(90 - n, 0, 0), n);
            due("there", x.of(n, 0), 90 - n);
        }
        due("thirteenth", x.news(0, 0, 0), FULL);
        due("12", x.of(12, 0), BAD);
        due("-1", x.of(-1, 0), BAD);
    }

    private static void newsYears() {
        says("are of a YEAR (0 .. 99)");
        for (int year = -1; year <= 100; year++) {
            GraveNews x = new GraveNews();
            due("year " + year, x.news(year, 0, 0), year >= 0 && year <= 99 ? 0 : BAD);
            due("of", x.of(0, 0), year >= 0 && year <= 99 ? year : BAD);
        }
    }

    private static void newsAhead() {
        says("have AHEAD (a set of NEWS of lesser numbers)");
        GraveNews x = new GraveNews();
        for (int n = 0; n < 12; n++) {
            due("itself", x.news(5, 1 << n, 0), BAD);
            due("itself and all lesser", x.news(5, (2 << n) - 1, 0), BAD);
            due("a greater one", x.news(5, 2 << n, 0), BAD);
            due("below 0", x.news(5, -1, 0), BAD);
            due("far", x.news(5, 1 << 31, 0), BAD);
            due("all lesser", x.news(5, (1 << n) - 1, 0), n);
            due("of", x.of(n, 1), (1 << n) - 1);
        }
        due("all twelve, but FULL", x.news(5, 4095, 0), FULL);
        due("a thirteenth", x.news(5, 4096, 0), BAD);
    }

    private static void newsAheadOfNoLaterYear() {
        says("of no later YEAR");
        GraveNews x = new GraveNews();
        x.news(50, 0, 0);
        x.news(60, 0, 0);
        due("later by 1", x.news(49, 1, 0), BAD);
        due("one of two is later", x.news(59, 3, 0), BAD);
        due("not that one", x.news(59, 1, 0), 2);
        due("of like year", x.news(50, 1, 0), 3);
        due("both", x.news(60, 3, 0), 4);
        due("none ahead", x.news(0, 0, 0), 5);
    }

    private static void newsShort() {
        says("are SHORT or not");
        GraveNews x = new GraveNews();
        due("-1", x.news(5, 0, -1), BAD);
        due("2", x.news(5, 0, 2), BAD);
        due("0", x.news(5, 0, 0), 0);
        due("1", x.news(5, 0, 1), 1);
        due("not", x.of(0, 3), 0);
        due("short", x.of(1, 3), 1);
    }

    private static void newsBarred() {
        says("BARRED (a set of GRAVES 0 .. 9 that may not hear it; none at first)");
        GraveNews x = new GraveNews();
        x.news(5, 0, 0);
        due("at first", x.of(0, 2), 0);
        due("-1", x.bar(0, -1), BAD);
        due("1024", x.bar(0, 1024), BAD);
        due("still", x.of(0, 2), 0);
        due("1023, though nobody is there", x.bar(0, 1023), 0);
        due("512", x.bar(0, 512), 1023);
        due("0", x.bar(0, 0), 512);
        x.bar(0, 2);
        x.news(6, 0, 0);
        due("none at first", x.of(1, 2), 0);
        x.reader(9);
        plain(x, 0, 0);
        due("one that came later is barred", x.wronged(0, 0, 0), 2);
        x.out();
        x.grave(PLAIN, 0, 5);
        due("who comes with that number is barred too", x.wronged(0, 0, 0), 2);
    }

    private static void readers() {
        says("READERS 0 .. 3, as they come, have a REACH (0 .. 9)");
        for (int reach = -1; reach <= 10; reach++) {
            GraveNews x = new GraveNews();
            boolean is = reach >= 0 && reach <= 9;
            due("reach " + reach, x.reader(reach), is ? 0 : BAD);
            due("count", x.count(2), is ? 1 : 0);
            if (!is) continue;
            plain(x, 0);
            for (int p = 0; p < 36; p++) due("hears at " + p, x.hears(0, p), p / 6 + p % 6 <= reach ? 1 : 0);
        }
        GraveNews x = plain(new GraveNews(), 0);
        for (int r = 0; r < 4; r++) {
            due("not there yet", x.hears(r, 0), BAD);
            due("reader", x.reader(r), r);
            due("its own reach", x.hears(r, r), 1);
            due("no more", x.hears(r, r + 1), 0);
        }
        due("fifth", x.reader(0), FULL);
        due("4", x.hears(4, 0), BAD);
        due("-1", x.hears(-1, 0), BAD);
    }

    private static void winds() {
        says("The WIND is 0 none, 1 .. 4 (0 at first)");
        GraveNews x = new GraveNews();
        due("at first", x.count(8), 0);
        due("-1", x.wind(-1), BAD);
        due("5", x.wind(5), BAD);
        due("still", x.count(8), 0);
        for (int w = 4; w >= 0; w--) due("was", x.wind(w), w == 4 ? 0 : w + 1);
    }

    private static int far(int place, int grave, int wind) {
        int row = place / 6, column = place % 6, itsRow = grave / 6, itsColumn = grave % 6;
        int far = Math.abs(row - itsRow) + Math.abs(column - itsColumn);
        if (wind == 1) return itsRow < row ? far - 1 : itsRow > row ? far + 1 : far;
        if (wind == 2) return itsColumn > column ? far - 1 : itsColumn < column ? far + 1 : far;
        if (wind == 3) return itsRow > row ? far - 1 : itsRow < row ? far + 1 : far;
        if (wind == 4) return itsColumn < column ? far - 1 : itsColumn > column ? far + 1 : far;
        return far;
    }

    private static void farByWinds() {
        says("How far a GRAVE is from a PLACE; HEARS, if that is no more than the REACH");
        int[][] reaches = {{0, 1, 2, 3}, {4, 5, 6, 7}, {8, 9}};
        for (int wind = 0; wind < 5; wind++) {
            for (int first = 0; first < 36; first += 9) {
                for (int[] some : reaches) {
                    GraveNews x = with(some);
                    for (int g = first; g < first + 9; g++) x.grave(PLAIN, g, 0);
                    x.wind(wind);
                    for (int r = 0; r < some.length; r++) {
                        for (int p = 0; p < 36; p++) {
                            int want = 0;
                            for (int g = 0; g < 9; g++) if (far(p, first + g, wind) <= some[r]) want |= 1 << g;
                            due("wind " + wind + " reach " + some[r] + " place " + p, x.hears(r, p), want);
                        }
                    }
                }
            }
        }
    }

    private static void kindsHear() {
        says("KINDS HEAR");
        int[][] reaches = {{0, 1, 2, 3}, {4, 5, 6, 7}, {8, 9}};
        int[] places = {0, 5, 14, 30, 35};
        for (int wind = 0; wind < 5; wind++) {
            for (int[] some : reaches) {
                for (int at : places) {
                    GraveNews x = with(some);
                    for (int kind = 0; kind < 6; kind++) x.grave(kind, at, 0);
                    x.wind(wind);
                    for (int r = 0; r < some.length; r++) {
                        for (int p = 0; p < 36; p++) {
                            boolean plain = far(p, at, wind) <= some[r];
                            boolean twice = some[r] > 0 && far(p, at, wind) <= some[r] - 1;
                            int want = (plain ? 1 | 4 | 32 : 0) | (twice ? 2 : 0) | (twice && wind != 3 ? 16 : 0);
                            due("wind " + wind + " reach " + some[r] + " place " + p, x.hears(r, p), want);
                        }
                    }
                }
            }
        }
    }

    private static void doubleByReachZero() {
        says("DOUBLE: with a REACH of 1 less (none by 0)");
        GraveNews x = graves(with(0, 1), DOUBLE, 14, 5, FOREIGN, 14, 5);
        due("there", x.hears(0, 14), 0);
        due("there by 1", x.hears(1, 14), 3);
        due("beside by 1", x.hears(1, 15), 0);
        x.wind(1);
        due("carried by 0", x.hears(0, 20), 0);
        due("carried by 1", x.hears(1, 20), 3);
        due("against the wind by 1", x.hears(1, 8), 0);
    }

    private static void foreignInWindThree() {
        says("FOREIGN: never in WIND 3");
        GraveNews x = graves(with(9), FOREIGN, 14, 5, DOUBLE, 14, 5);
        for (int wind = 0; wind < 5; wind++) {
            x.wind(wind);
            due("there in wind " + wind, x.hears(0, 14), wind == 3 ? 2 : 3);
            due("carried in wind " + wind, x.hears(0, 2), wind == 3 ? 2 : 3);
        }
        x.wind(3);
        due("hidden in wind 3", x.hidden(0, 1), (1L << 36) - 1);
    }

    private static void kindsOwed() {
        says("is OWED NEWS of its YEAR and of 8 YEARS behind it, by KINDS");
        int[] graveYears = {0, 1, 40, 88, 89};
        for (int year : graveYears) {
            for (int isShort = 0; isShort < 2; isShort++) {
                GraveNews x = new GraveNews();
                for (int kind = 0; kind < 6; kind++) x.grave(kind, 0, year);
                int[] want = new int[6];
                int first = Math.max(0, Math.min(88, year - 1));
                for (int n = 0; n < 12; n++) {
                    x.news(first + n, 0, isShort);
                    boolean plain = first + n >= year && first + n <= year + 8;
                    boolean own = first + n == year;
                    if (plain) want[PLAIN] |= 1 << n;
                    if (plain) want[DOUBLE] |= 1 << n;
                    if (plain && isShort == 1) want[INFANT] |= 1 << n;
                    if (plain && !own) want[FOREIGN] |= 1 << n;
                    if (plain && (isShort == 1 || own)) want[ENEMY] |= 1 << n;
                }
                for (int kind = 0; kind < 6; kind++) {
                    due("owed to " + kind + " of " + year, x.told(kind, 4), want[kind]);
                    due("arrears of " + kind + " of " + year, x.told(kind, 5), want[kind]);
                }
                for (int n = 0; n < 12; n++) {
                    int set = 0;
                    for (int kind = 0; kind < 6; kind++) if ((want[kind] & 1 << n) != 0) set |= 1 << kind;
                    due("of " + n, x.of(n, 4), set);
                }
            }
        }
    }

    private static void enemyOfItsOwnYear() {
        says("ENEMY: is OWED as INFANT, and all NEWS of its own YEAR");
        GraveNews x = graves(new GraveNews(), ENEMY, 0, 10, INFANT, 0, 10);
        x.news(9, 0, 0);
        x.news(10, 0, 0);
        x.news(11, 0, 0);
        x.news(10, 0, 1);
        x.news(18, 0, 1);
        x.news(19, 0, 1);
        x.news(9, 0, 1);
        due("enemy", x.told(0, 4), 2 | 8 | 16);
        due("infant", x.told(1, 4), 8 | 16);
    }

    private static void barredIsNeverOwed() {
        says("BARRED NEWS is never OWED");
        GraveNews x = new GraveNews();
        for (int kind = 0; kind < 6; kind++) x.grave(kind, 0, 10);
        x.news(10, 0, 1);
        x.news(11, 0, 1);
        due("of its year", x.of(0, 4), 1 | 2 | 4 | 32);
        due("behind it", x.of(1, 4), 1 | 2 | 4 | 16 | 32);
        for (int g = 0; g < 6; g++) {
            x.bar(0, 1 << g);
            x.bar(1, 1 << g);
            due("of its year, but " + g, x.of(0, 4), (1 | 2 | 4 | 32) & ~(1 << g));
            due("behind it, but " + g, x.of(1, 4), (1 | 2 | 4 | 16 | 32) & ~(1 << g));
            due("told", x.told(g, 4), 0);
            due("no arrears", x.told(g, 5), 0);
        }
        x.bar(0, 0);
        due("owed again", x.of(0, 4), 1 | 2 | 4 | 32);
    }

    // ---- 2

    private static void wrongedIfBarred() {
        says("WRONGED, if it is BARRED");
        GraveNews x = plain(with(0, 9), 0, 0, 35);
        x.news(5, 0, 0);
        x.bar(0, 6);
        due("who is barred and hears", x.wronged(0, 0, 0), 2);
        due("the other one", x.wronged(0, 35, 0), 4);
        due("nobody hears", x.wronged(0, 7, 0), 0);
        due("not even what is not owed", graves(x, PLAIN, 0, 80).bar(0, 8), 6);
        due("is wronged, if barred", x.wronged(0, 0, 0), 8);
        GraveNews y = graves(with(9), EMPTY, 0, 5);
        y.news(5, 0, 0);
        y.bar(0, 1);
        due("who does not hear is not", y.wronged(0, 0, 0), 0);
    }

    private static void wrongedIfHeardAlready() {
        says("WRONGED, if it HEARD it already");
        GraveNews x = graves(with(0), PLAIN, 0, 5, PLAIN, 0, 80, PLAIN, 1, 5);
        x.news(5, 0, 0);
        due("not yet", x.wronged(0, 0, 0), 0);
        x.read(0, 0, 0);
        due("already, owed or not", x.wronged(0, 0, 0), 3);
        due("another one", x.wronged(0, 1, 0), 0);
        x.undo();
        due("undone", x.wronged(0, 0, 0), 0);
    }

    private static void wrongedIfTooSoon() {
        says("WRONGED, if it did not HEAR all that is AHEAD of it and OWED to it");
        GraveNews x = graves(with(0), PLAIN, 0, 5, PLAIN, 0, 6, INFANT, 0, 5, EMPTY, 0, 5, PLAIN, 0, 7);
        x.news(5, 0, 0);
        x.news(6, 0, 1);
        x.news(7, 3, 1);
        due("two, one, one are owed", x.wronged(0, 0, 2), 1 | 2 | 4);
        x.read(0, 0, 0);
        due("one heard, the other not", x.wronged(0, 0, 2), 1 | 2 | 4);
        x.read(0, 0, 1);
        due("all heard", x.wronged(0, 0, 2), 0);
        x.undo();
        x.undo();
        x.read(0, 0, 1);
        due("only the first is missing", x.wronged(0, 0, 2), 1);
        x.bar(0, 1);
        due("it is barred, so not owed", x.wronged(0, 0, 2), 0);
        says("AHEAD is the set that was told, no more");
        GraveNews y = plain(with(0), 0);
        y.news(5, 0, 0);
        y.news(5, 1, 0);
        y.news(5, 2, 0);
        y.read(0, 0, 1);
        due("what is ahead of what is ahead is no matter", y.wronged(0, 0, 2), 0);
    }

    private static void wrongedOnceByAReading() {
        says("How often each was WRONGED is counted");
        GraveNews x = plain(with(0), 0, 0);
        x.news(5, 0, 0);
        x.news(5, 1, 0);
        x.bar(1, 1);
        x.read(0, 0, 1);
        due("too soon and barred is once", x.told(0, 6), 1);
        due("too soon", x.told(1, 6), 1);
        x.read(0, 0, 1);
        due("twice, too soon and barred is once more", x.told(0, 6), 2);
        due("all", x.count(9), 4);
        x.read(0, 0, 0);
        due("clean", x.count(9), 4);
        x.read(0, 35, 0);
        due("heard by nobody", x.count(9), 4);
    }

    private static void wrongedAsItWasAhead() {
        says("a READING WRONGS by what was HEARD ahead of it");
        GraveNews x = plain(with(0), 0);
        x.news(5, 0, 0);
        x.read(0, 0, 0);
        due("its own hearing is no wrong", x.told(0, 6), 0);
        x.read(0, 0, 0);
        due("then it is", x.told(0, 6), 1);
    }

    private static void allWhoHearHeard() {
        says("All who HEAR it HEARD it then");
        GraveNews x = graves(with(0), PLAIN, 0, 5, PLAIN, 0, 80, PLAIN, 0, 5, EMPTY, 0, 5, PLAIN, 1, 5);
        x.news(5, 0, 0);
        x.bar(0, 4);
        due("read", x.read(0, 0, 0), 7);
        due("owed", x.told(0, 3), 1);
        due("not owed", x.told(1, 3), 1);
        due("barred", x.told(2, 3), 1);
        due("empty", x.told(3, 3), 0);
        due("elsewhere", x.told(4, 3), 0);
        due("of", x.of(0, 5), 7);
    }

    private static void wrongsNinetyNineAtMost() {
        says("counted (99 at most)");
        GraveNews x = plain(with(0), 0, 0, 0, 0, 0, 0, 0, 0, 0, 0);
        x.news(5, 0, 0);
        for (int k = 0; k < 99; k++) x.read(0, 0, 0);
        due("98", x.told(0, 6), 98);
        x.read(0, 0, 0);
        due("99", x.told(0, 6), 99);
        due("all", x.count(9), 990);
        x.read(0, 0, 0);
        due("no more", x.told(9, 6), 99);
        due("all", x.count(9), 990);
        due("undo", x.undo(), 9);
        due("the one at 99 had not changed it", x.told(9, 6), 99);
        x.undo();
        due("98 again", x.told(9, 6), 98);
    }

    private static void arrearsAndPaid() {
        says("ARREARS: NEWS that is OWED, and that it did not HEAR. PAID: it has none");
        GraveNews x = graves(with(0), PLAIN, 0, 5, PLAIN, 1, 5, EMPTY, 0, 5, PLAIN, 0, 80);
        x.news(5, 0, 0);
        x.news(13, 0, 0);
        x.news(14, 0, 0);
        due("arrears", x.told(0, 5), 3);
        due("of all", x.count(4), 4);
        due("who is owed nothing is paid", x.count(5), 2);
        x.read(0, 0, 0);
        due("arrears", x.told(0, 5), 2);
        due("of all", x.count(4), 3);
        due("not yet", x.count(5), 2);
        x.read(0, 0, 2);
        due("what is not owed pays nothing", x.count(4), 3);
        x.read(0, 0, 1);
        due("paid", x.told(0, 5), 0);
        due("paid", x.count(5), 3);
        x.bar(0, 2);
        x.bar(1, 2);
        due("barred, so paid", x.count(5), 4);
        x.news(5, 0, 0);
        due("new ones are owed", x.count(5), 2);
    }

    private static void nowAndLate() {
        says("NOW is a YEAR (0 at first, 99 at most)");
        GraveNews x = graves(with(0), PLAIN, 0, 89);
        x.news(90, 0, 0);
        due("at first", x.now(99), 0);
        due("100", x.now(100), BAD);
        due("-1", x.now(-1), BAD);
        due("still", x.now(98), 99);
        says("LATE: has ARREARS of a YEAR that is 9 or more below NOW");
        due("8 below", x.told(0, 7), 0);
        due("8 below", x.count(6), 0);
        x.now(99);
        due("9 below", x.told(0, 7), 1);
        due("9 below", x.count(6), 1);
        x.read(0, 0, 0);
        due("heard", x.told(0, 7), 0);
        x.undo();
        x.bar(0, 1);
        due("barred", x.told(0, 7), 0);
        GraveNews y = graves(new GraveNews(), PLAIN, 0, 0, PLAIN, 0, 1);
        y.news(0, 0, 0);
        for (int now = 0; now < 20; now++) {
            y.now(now);
            due("year 0, now " + now, y.told(0, 7), now >= 9 ? 1 : 0);
            due("not owed", y.told(1, 7), 0);
            due("late ones", y.count(6), now >= 9 ? 1 : 0);
        }
        y.news(1, 0, 0);
        y.now(10);
        due("both", y.count(6), 2);
    }

    private static void standMostAndLeast() {
        says("STAND: the PLACE from which most GRAVES that have it in ARREARS HEAR it; of like ones the least");
        GraveNews x = plain(with(1, 0, 9), 30, 33, 35);
        x.news(5, 0, 0);
        due("two of three", x.stand(0, 0), 34);
        due("one of three", x.stand(1, 0), 30);
        due("all", x.stand(2, 0), 1);
        x.wind(3);
        due("in the wind that is now", x.stand(2, 0), 0);
        GraveNews y = graves(with(1), PLAIN, 0, 80, PLAIN, 2, 80, PLAIN, 35, 5);
        y.news(5, 0, 0);
        due("those who are owed are counted, not all", y.stand(0, 0), 29);
    }

    private static void standClean() {
        says("STAND: so that the READING is CLEAN");
        GraveNews x = plain(with(1), 0, 2, 35);
        x.news(5, 0, 0);
        due("both", x.stand(0, 0), 1);
        x.bar(0, 1);
        due("not where the barred one hears", x.stand(0, 0), 2);
        x.bar(0, 0);
        x.read(0, 0, 0);
        due("not where one heard it", x.stand(0, 0), 2);
        GraveNews y = plain(with(1), 0, 2, 35);
        y.news(5, 0, 0);
        y.news(5, 1, 0);
        y.read(0, 2, 0);
        due("not where what is ahead is missing", y.stand(0, 1), 2);
    }

    private static void standNone() {
        says("STAND: none, if none HEARS so");
        GraveNews x = graves(with(0, 1), DOUBLE, 14, 5);
        x.news(5, 0, 0);
        due("none hears", x.stand(0, 0), NONE);
        due("one hears", x.stand(1, 0), 14);
        x.read(1, 14, 0);
        due("none has it in arrears", x.stand(1, 0), NONE);
        GraveNews y = plain(with(9), 0, 0);
        y.news(5, 0, 0);
        due("both", y.stand(0, 0), 0);
        y.bar(0, 2);
        due("never clean", y.stand(0, 0), NONE);
        GraveNews z = with(9);
        z.news(5, 0, 0);
        due("no graves", z.stand(0, 0), NONE);
    }

    /** Who is at 30 could be reached only from a row behind the last, where the others would not hear. */
    private static void noPlaceBeyondThirtyFive() {
        says("PLACES 0 .. 35, and no more");
        GraveNews x = plain(with(1), 30, 24, 31);
        x.news(5, 0, 0);
        due("all are owed", x.stand(0, 0), 30);
        due("alone", x.alone(0, 0), NONE);
        x.bar(0, 2 | 4);
        due("stand", x.stand(0, 0), NONE);
        noCover(x, 0, 0);
        due("likeliest", x.likeliest(0, 1), 30);
        GraveNews y = plain(with(1), 5, 4, 11);
        y.news(5, 0, 0);
        due("alone", y.alone(0, 0), NONE);
        y.bar(0, 2 | 4);
        due("stand", y.stand(0, 0), NONE);
        noCover(y, 0, 0);
        GraveNews z = plain(with(1), 0, 1, 6);
        z.news(5, 0, 0);
        due("alone", z.alone(0, 0), NONE);
        z.bar(0, 2 | 4);
        due("stand", z.stand(0, 0), NONE);
        noCover(z, 0, 0);
    }

    private static void covered(GraveNews x, int reader, int news, int... places) {
        due("cover", x.cover(reader, news, -1), places.length);
        for (int i = 0; i < 3; i++) due("cover " + i, x.cover(reader, news, i), i < places.length ? places[i] : NONE);
    }

    private static void noCover(GraveNews x, int reader, int news) {
        for (int i = -1; i < 3; i++) due("no cover " + i, x.cover(reader, news, i), NONE);
    }

    private static void coverOfNone() {
        says("COVER: 0 PLACES");
        GraveNews x = with(0);
        x.news(5, 0, 0);
        covered(x, 0, 0);
        plain(x, 0);
        covered(x, 0, 0, 0);
        x.read(0, 0, 0);
        covered(x, 0, 0);
        x.bar(0, 1);
        covered(x, 0, 0);
        x.undo();
        covered(x, 0, 0);
    }

    private static void coverFewest() {
        says("COVER: the fewest PLACES (0 .. 3)");
        GraveNews x = with(0, 9);
        x.news(5, 0, 0);
        plain(x, 35);
        covered(x, 0, 0, 35);
        covered(x, 1, 0, 1);
        plain(x, 21);
        covered(x, 0, 0, 21, 35);
        covered(x, 1, 0, 1);
        plain(x, 7);
        covered(x, 0, 0, 7, 21, 35);
        covered(x, 1, 0, 1);
        plain(x, 7);
        covered(x, 0, 0, 7, 21, 35);
        plain(x, 28);
        noCover(x, 0, 0);
        covered(x, 1, 0, 1);
        x.read(0, 35, 0);
        covered(x, 0, 0, 7, 21, 28);
        x.read(0, 28, 0);
        covered(x, 0, 0, 7, 21);
        x.read(0, 7, 0);
        covered(x, 0, 0, 21);
        x.read(0, 21, 0);
        covered(x, 0, 0);
    }

    private static void coverFirstRow() {
        says("COVER: of like ones the first row");
        GraveNews x = plain(with(1), 35);
        x.news(5, 0, 0);
        covered(x, 0, 0, 29);
        plain(x, 0);
        covered(x, 0, 0, 0, 29);
        plain(x, 5);
        covered(x, 0, 0, 0, 4, 29);
        GraveNews y = plain(with(1), 0, 2, 4);
        y.news(5, 0, 0);
        covered(y, 0, 0, 0, 3);
        GraveNews z = plain(with(1), 0, 2, 4, 30, 32, 34);
        z.news(5, 0, 0);
        noCover(z, 0, 0);
        z.wind(3);
        due("in the wind that is now", z.cover(0, 0, -1), NONE);
    }

    private static void coverEachReadingClean() {
        says("COVER: from which, one behind the other, each READING of them CLEAN");
        GraveNews x = graves(with(1), PLAIN, 0, 5, PLAIN, 1, 80, PLAIN, 2, 5);
        x.news(5, 0, 0);
        covered(x, 0, 0, 1);
        x.read(0, 35, 0);
        covered(x, 0, 0, 1);
        x.bar(0, 2);
        covered(x, 0, 0, 3, 6);
        x.bar(0, 0);
        GraveNews y = graves(with(2), PLAIN, 0, 5, PLAIN, 3, 80, PLAIN, 5, 5);
        y.news(5, 0, 0);
        covered(y, 0, 0, 0, 3);
        y.bar(0, 2);
        covered(y, 0, 0, 0, 11);
        nobodyTwice();
        GraveNews z = plain(with(0), 0, 1);
        z.news(5, 0, 0);
        z.news(5, 1, 0);
        z.read(0, 0, 0);
        noCover(z, 0, 1);
        z.read(0, 1, 0);
        covered(z, 0, 1, 0, 1);
    }

    /** The barred ones leave 0 and 2 alone as places; who is at 1 hears at both, owed or not. */
    private static void nobodyTwice() {
        GraveNews x = plain(with(1), 0, 2, 7, 4);
        x.news(5, 0, 0);
        x.bar(0, 4 | 8);
        covered(x, 0, 0, 0, 2);
        x.grave(PLAIN, 1, 80);
        noCover(x, 0, 0);
        x.out();
        x.grave(EMPTY, 1, 80);
        covered(x, 0, 0, 0, 2);
    }

    /** The first of the shortest rows, by trying all of them with what hears() and wronged() tell. */
    private static int[] firstRow(GraveNews x, int reader, int news) {
        int owed = x.of(news, 4) & ~x.of(news, 5);
        int[] hearing = new int[36];
        for (int p = 0; p < 36; p++) hearing[p] = x.wronged(reader, p, news) == 0 ? x.hears(reader, p) : -1;
        if (owed == 0) return new int[0];
        for (int a = 0; a < 36; a++) if (hearing[a] >= 0 && (owed & ~hearing[a]) == 0) return new int[] {a};
        for (int a = 0; a < 36; a++) {
            for (int b = 0; b < 36; b++) {
                if (hearing[a] < 0 || hearing[b] < 0 || (hearing[a] & hearing[b]) != 0) continue;
                if ((owed & ~(hearing[a] | hearing[b])) == 0) return new int[] {a, b};
            }
        }
        for (int a = 0; a < 36; a++) {
            for (int b = 0; b < 36; b++) {
                if (hearing[a] < 0 || hearing[b] < 0 || (hearing[a] & hearing[b]) != 0) continue;
                int both = hearing[a] | hearing[b];
                for (int c = 0; c < 36; c++) {
                    if (hearing[c] < 0 || (both & hearing[c]) != 0) continue;
                    if ((owed & ~(both | hearing[c])) == 0) return new int[] {a, b, c};
                }
            }
        }
        return null;
    }

    private static void coverByTryingAll() {
        says("COVER: the fewest, the first row, however many PLACES may be of it");
        GraveNews corners = plain(with(4), 0, 5, 30, 35);
        corners.news(5, 0, 0);
        covered(corners, 0, 0, 1, 26);
        GraveNews last = graves(with(4), DOUBLE, 31, 5, PLAIN, 7, 5, PLAIN, 11, 5);
        last.news(5, 0, 0);
        last.wind(4);
        for (int p = 0; p < 36; p++) due("someone hears at " + p + " (0: nobody)", last.hears(0, p) > 0 ? 1 : 0, 1);
        int[] withLast = firstRow(last, 0, 0);
        due("the last place is of it", withLast[1], 35);
        covered(last, 0, 0, withLast);
        int[][] yards = {{0, 5, 30, 35}, {0, 5, 30, 35, 14}, {0, 5, 30, 35, 14, 21}, {0, 35}, {0, 5, 30}, {0, 3, 18, 21, 35},
            {7, 10, 25, 28}, {7, 10, 25, 28, 14}, {0, 2, 4, 12, 14, 16, 24, 26, 28}, {0, 5, 30, 35, 2, 12, 17, 32},
            {0, 35, 7, 28, 14, 21}, {1, 4, 31, 34}, {0, 1, 2, 3, 4, 5}, {0, 6, 12, 18, 24, 30}};
        int many = 0;
        for (int[] yard : yards) {
            for (int reach = 0; reach <= 5; reach++) {
                for (int wind = 0; wind < 3; wind++) {
                    GraveNews x = plain(with(reach), yard);
                    x.news(5, 0, 0);
                    x.wind(wind);
                    int[] row = firstRow(x, 0, 0);
                    if (row == null) noCover(x, 0, 0);
                    else covered(x, 0, 0, row);
                    if (row == null) continue;
                    for (int p : row) {
                        due("clean", x.wronged(0, p, 0), 0);
                        x.read(0, p, 0);
                    }
                    due("all heard", x.count(4), 0);
                    many += row.length == 3 ? 1 : 0;
                }
            }
        }
        due("some are of three (0: none)", many > 0 ? 1 : 0, 1);
    }

    private static void ordersHowMany() {
        says("ORDERS: how many");
        GraveNews x = new GraveNews();
        due("of none", x.orders(-1), 1);
        int many = 1;
        for (int n = 1; n <= 12; n++) {
            x.news(5, 0, 0);
            many *= n;
            due("of " + n, x.orders(-1), many);
        }
        GraveNews chain = new GraveNews();
        for (int n = 0; n < 12; n++) {
            chain.news(5, n == 0 ? 0 : 1 << n - 1, 0);
            due("a chain of " + (n + 1), chain.orders(-1), 1);
        }
        GraveNews pairs = new GraveNews();
        for (int n = 0; n < 12; n++) pairs.news(5, n % 2 == 0 ? 0 : 1 << n - 1, 0);
        due("six pairs", pairs.orders(-1), 479001600 / 64);
        GraveNews last = new GraveNews();
        for (int n = 0; n < 11; n++) last.news(5, 0, 0);
        last.news(5, 2047, 0);
        due("the last behind all", last.orders(-1), 39916800);
        due("the last of it", last.orders(11), 11);
        due("the first of it", last.orders(0), 10);
    }

    private static void ordersLastRow() {
        says("ORDERS: the i-th of the last such row (that with greater numbers first)");
        GraveNews x = new GraveNews();
        due("of none", x.orders(0), NONE);
        x.news(5, 0, 0);
        due("of one", x.orders(0), 0);
        due("no second", x.orders(1), NONE);
        x.news(6, 0, 0);
        due("the later year ahead, if nothing forbids it", x.orders(0), 1);
        x.news(6, 2, 0);
        int[] row = {1, 2, 0};
        for (int i = 0; i < 3; i++) due("row " + i, x.orders(i), row[i]);
        x.news(6, 1, 0);
        int[] next = {1, 2, 0, 3};
        for (int i = 0; i < 4; i++) due("next " + i, x.orders(i), next[i]);
        due("no fifth", x.orders(4), NONE);
        due("no twelfth", x.orders(11), NONE);
        due("12", x.orders(12), BAD);
        due("-2", x.orders(-2), BAD);
        x.bar(3, 1023);
        due("what is barred is read all the same", x.orders(3), 3);
    }

    private static GraveNews tenByTwelve() {
        GraveNews x = with(9);
        for (int g = 0; g < 10; g++) x.grave(PLAIN, 0, 5);
        for (int n = 0; n < 12; n++) x.news(5 + n % 9, 0, 0);
        return x;
    }

    private static void yearsHowMany() {
        says("YEARS: paid n in each YEAR: how many YEARS it takes");
        GraveNews x = tenByTwelve();
        due("arrears", x.count(4), 120);
        int[][] rows = {{1, 120}, {2, 60}, {7, 18}, {8, 15}, {11, 11}, {12, 10}, {13, 10}, {29, 5}, {30, 4}};
        for (int[] row : rows) due("by " + row[0], x.years(row[0], 0), row[1]);
        due("by 0", x.years(0, 0), BAD);
        due("by 31", x.years(31, 0), BAD);
        GraveNews y = with(0);
        for (int place = 0; place < 10; place++) y.grave(PLAIN, place, 5);
        y.news(5, 0, 0);
        due("ten by ten", y.years(10, 0), 1);
        due("ten by nine", y.years(9, 0), 2);
        for (int left = 9; left >= 0; left--) {
            y.read(0, left, 0);
            due("by one", y.years(1, 0), left);
            due("by thirty", y.years(30, 0), left == 0 ? 0 : 1);
        }
    }

    private static void yearsRow() {
        says("YEARS: by the YEAR of the NEWS");
        GraveNews x = graves(new GraveNews(), PLAIN, 0, 6, PLAIN, 0, 5);
        x.news(14, 0, 0);
        x.news(13, 0, 0);
        x.bar(1, 1);
        x.now(23);
        due("13 is first, and too late", x.years(1, 1), 1);
        says("YEARS: then by GRAVES, then by NEWS");
        GraveNews y = graves(new GraveNews(), PLAIN, 0, 5, PLAIN, 0, 5);
        y.news(5, 0, 0);
        y.news(5, 0, 0);
        y.now(12);
        due("the third is the first that is too late: the other grave's", y.years(1, 1), 1);
        y.now(13);
        due("the second: the first grave's", y.years(1, 1), 0);
        due("by two: the third", y.years(2, 1), 1);
        due("by three: the fourth", y.years(3, 1), 1);
        due("by four: none", y.years(4, 1), NONE);
        y.now(11);
        due("the fourth", y.years(1, 1), 1);
        y.now(10);
        due("none", y.years(1, 1), NONE);
    }

    private static void yearsTooLate() {
        says("YEARS: paid 9 YEARS or more behind the YEAR of its NEWS, the first ones in NOW");
        GraveNews x = graves(new GraveNews(), PLAIN, 0, 0);
        x.news(0, 0, 0);
        x.now(8);
        due("8 behind", x.years(1, 1), NONE);
        x.now(9);
        due("9 behind", x.years(1, 1), 0);
        due("9 behind, however many", x.years(30, 1), 0);
        GraveNews y = tenByTwelve();
        y.now(0);
        due("paid ahead of its year is not late", y.years(30, 1), NONE);
        due("by one, 20 of year 5 are paid in 0 .. 19", y.years(1, 1), 7);
        due("by two, in 0 .. 9; 20 of year 6 in 10 .. 19", y.years(2, 1), 5);
        y.now(99);
        due("far beyond 99", y.years(1, 1), 0);
        due("how many all the same", y.years(1, 0), 120);
    }

    private static void weights() {
        says("WINDS 0 .. 4 come with WEIGHTS 0 .. 9 each (1 at first)");
        GraveNews x = new GraveNews();
        for (int w = -1; w <= 5; w++) {
            boolean is = w >= 0 && w < 5;
            due("-1", x.weight(w, -1), BAD);
            due("10", x.weight(w, 10), BAD);
            due("at first", x.weight(w, 9), is ? 1 : BAD);
            due("0", x.weight(w, 0), is ? 9 : BAD);
        }
        for (int w = 0; w < 5; w++) due("its own", x.weight(w, w + 5), 0);
        for (int w = 0; w < 5; w++) due("its own", x.weight(w, 1), w + 5);
    }

    private static void fraction(GraveNews x, int place, int set, int above, int below) {
        due("above at " + place, x.chance(0, place, set, 0), above);
        due("below at " + place, x.chance(0, place, set, 1), below);
    }

    private static void setWeights(GraveNews x, int... all) {
        for (int w = 0; w < 5; w++) x.weight(w, all[w]);
    }

    /** One grave at 14 and a reach of 1: at 20 it hears in 0 .. 4 but 3, at 26 in wind 1 alone, at 32 never. */
    private static void chanceInLowestTerms() {
        says("Fractions are in lowest terms, told above (part 0), below (part 1; above 0)");
        GraveNews x = plain(with(1), 14);
        fraction(x, 14, 1, 1, 1);
        fraction(x, 20, 1, 4, 5);
        fraction(x, 26, 1, 1, 5);
        fraction(x, 32, 1, 0, 1);
        setWeights(x, 9, 9, 9, 9, 9);
        fraction(x, 14, 1, 1, 1);
        fraction(x, 20, 1, 4, 5);
        fraction(x, 26, 1, 1, 5);
        fraction(x, 32, 1, 0, 1);
        setWeights(x, 9, 9, 9, 9, 8);
        fraction(x, 26, 1, 9, 44);
        fraction(x, 20, 1, 35, 44);
        setWeights(x, 4, 6, 2, 0, 0);
        fraction(x, 26, 1, 1, 2);
        setWeights(x, 0, 6, 3, 0, 0);
        fraction(x, 26, 1, 2, 3);
        setWeights(x, 0, 0, 0, 1, 0);
        fraction(x, 20, 1, 0, 1);
        fraction(x, 14, 1, 1, 1);
        x.weight(3, 0);
        due("all are 0", x.chance(0, 14, 1, 0), NOT);
        due("all are 0", x.chance(0, 14, 1, 1), NOT);
        due("all are 0", x.chance(0, 14, 0, 0), NOT);
        x.weight(4, 1);
        fraction(x, 14, 1, 1, 1);
        due("part 2", x.chance(0, 14, 1, 2), BAD);
        due("part -1", x.chance(0, 14, 1, -1), BAD);
    }

    private static void chanceOfAnyWeights() {
        says("Fractions are in lowest terms, of any WEIGHTS");
        GraveNews x = plain(with(1), 14);
        setWeights(x, 0, 0, 0, 0, 0);
        for (int above = 0; above <= 9; above++) {
            x.weight(1, above);
            for (int rest = 0; rest <= 9; rest++) {
                x.weight(0, rest);
                int common = 1;
                for (int d = 1; d <= 18; d++) if (above % d == 0 && (above + rest) % d == 0) common = d;
                if (above + rest == 0) due("no weight", x.chance(0, 26, 1, 0), NOT);
                else fraction(x, 26, 1, above == 0 ? 0 : above / common, above == 0 ? 1 : (above + rest) / common);
            }
        }
    }

    private static void chanceOfAllOfASet() {
        says("CHANCE: how likely it is that all of a set of GRAVES HEAR");
        GraveNews x = graves(with(1), PLAIN, 14, 5, PLAIN, 16, 5, FOREIGN, 15, 5, EMPTY, 15, 5);
        fraction(x, 15, 0, 1, 1);
        fraction(x, 15, 1, 4, 5);
        fraction(x, 15, 2, 4, 5);
        fraction(x, 15, 3, 3, 5);
        fraction(x, 15, 4, 4, 5);
        fraction(x, 15, 7, 2, 5);
        fraction(x, 15, 8, 0, 1);
        fraction(x, 15, 15, 0, 1);
        due("who is not there", x.chance(0, 15, 16, 0), BAD);
        due("below 0", x.chance(0, 15, -1, 0), BAD);
        x.wind(4);
        fraction(x, 15, 3, 3, 5);
        due("chance leaves the wind", x.count(8), 4);
    }

    private static void likeliestMostAndLeast() {
        says("LIKELIEST: the PLACE at which that is most, of like ones the least");
        GraveNews x = graves(with(1), PLAIN, 35, 5, PLAIN, 33, 5, EMPTY, 0, 5);
        due("surely there", x.likeliest(0, 1), 35);
        due("both", x.likeliest(0, 3), 34);
        due("nobody: everywhere", x.likeliest(0, 0), 0);
        due("the empty one: nowhere", x.likeliest(0, 4), 0);
        setWeights(x, 0, 0, 0, 1, 0);
        due("in wind 3 alone", x.likeliest(0, 1), 23);
        setWeights(x, 2, 0, 0, 1, 0);
        due("29 in both", x.likeliest(0, 1), 29);
        setWeights(x, 0, 1, 0, 0, 0);
        due("in wind 1", x.likeliest(0, 1), 34);
        setWeights(x, 0, 0, 0, 0, 0);
        due("all are 0", x.likeliest(0, 1), NOT);
        due("who is not there", x.likeliest(0, 8), BAD);
        due("below 0", x.likeliest(0, -1), BAD);
    }

    // ---- 3

    private static void whichJustASet() {
        says("WHICH: GRAVES that can have HEARD just a set of NEWS (whatever they HEARD so far)");
        GraveNews x = graves(with(0), PLAIN, 0, 5, PLAIN, 1, 80, EMPTY, 0, 5, PLAIN, 35, 5);
        x.news(5, 0, 0);
        x.news(5, 1, 0);
        x.bar(1, 1);
        x.sheet(0, 0, 36);
        int[] row = {0, 0, 1, 0, 1, 0, 0, 0, 0, 0, 0, 1};
        for (int i = 0; i < row.length; i++) x.item(0, 0, i, row[i]);
        int[][] want = {{14, 0, 1, 0}, {12, 2, 1, 0}, {12, 2, 0, 1}, {12, 2, 0, 1}};
        for (int read = 0; read < 2; read++) {
            for (int n = 1; n <= 4; n++) {
                for (int set = 0; set < 4; set++) due("by " + n + " set " + set, x.which(set, 0, 0, 0, n), want[n - 1][set]);
                due("no such news", x.which(4, 0, 0, 0, n), BAD);
            }
            x.read(0, 0, 0);
            x.read(0, 35, 1);
        }
        due("heard so far", x.told(0, 3), 1);
        due("readings", x.count(3), 4);
    }

    private static void moreThanAnother() {
        says("MORE: NEWS that one GRAVE HEARD and another one did not");
        GraveNews x = plain(with(0), 0, 1);
        for (int n = 0; n < 12; n++) x.news(5, 0, 0);
        for (int n = 0; n < 12; n++) x.read(0, 0, n);
        due("all", x.more(0, 1), 4095);
        due("none", x.more(1, 0), 0);
        due("itself", x.more(0, 0), 0);
        x.read(0, 1, 11);
        due("but the last", x.more(0, 1), 2047);
        due("none", x.more(1, 0), 0);
        due("grave 2", x.more(2, 0), BAD);
        due("grave 2", x.more(0, 2), BAD);
    }

    private static void soonerPairs() {
        says("SOONER: pairs of NEWS (a, b), a AHEAD of b, both HEARD, of which a GRAVE HEARD b first");
        GraveNews x = plain(with(0), 0, 1);
        for (int n = 0; n < 12; n++) x.news(5, (1 << n) - 1, 0);
        x.read(0, 0, 11);
        due("one alone", x.sooner(0, 0), 0);
        due("one alone", x.sooner(0, 1), NONE);
        x.read(0, 0, 10);
        due("10, 11", x.sooner(0, 0), 1);
        due("10, 11", x.sooner(0, 1), 1011);
        x.read(0, 0, 0);
        due("0, 10 and 0, 11 and 10, 11", x.sooner(0, 0), 3);
        due("0, 10", x.sooner(0, 1), 10);
        for (int n = 9; n > 0; n--) x.read(0, 0, n);
        due("all pairs but those of 0 with 1 .. 9", x.sooner(0, 0), 66 - 9);
        due("still 0, 10", x.sooner(0, 1), 10);
        due("the other one", x.sooner(1, 0), 0);
        for (int n = 0; n < 12; n++) x.read(0, 1, n);
        due("as they should be", x.sooner(1, 0), 0);
        due("as they should be", x.sooner(1, 1), NONE);
        GraveNews y = plain(with(0), 0);
        y.news(5, 0, 0);
        y.news(5, 0, 0);
        y.read(0, 0, 1);
        y.read(0, 0, 0);
        due("none is ahead of the other", y.sooner(0, 0), 0);
        GraveNews z = graves(with(0), PLAIN, 0, 80);
        z.news(5, 0, 0);
        z.news(5, 1, 0);
        z.bar(0, 1);
        z.read(0, 0, 1);
        z.read(0, 0, 0);
        due("owed or not, barred or not", z.sooner(0, 1), 1);
    }

    private static void soonerFromReadingZero() {
        says("When each was HEARD is kept: by READINGS counted from 0 on");
        GraveNews x = plain(with(0), 0, 1);
        x.news(5, 0, 0);
        x.news(5, 1, 0);
        x.read(0, 0, 1);
        due("b in 0", x.sooner(0, 0), 0);
        x.read(0, 0, 0);
        due("a in 1", x.sooner(0, 0), 1);
        x.undo();
        x.undo();
        x.read(0, 0, 0);
        x.read(0, 0, 1);
        due("a in 0, b in 1", x.sooner(0, 0), 0);
        x.read(0, 1, 1);
        x.read(0, 1, 0);
        due("the other one", x.sooner(1, 0), 1);
        due("not this one", x.sooner(0, 0), 0);
        says("9999 at most");
        GraveNews y = plain(with(0), 0);
        y.news(5, 0, 0);
        y.news(5, 1, 0);
        y.image();
        y.bar(0, 1);
        y.seed(1);
        for (int k = 0; k < 333; k++) y.lots(30);
        y.wind(0);
        due("readings", y.count(3), 9990);
        typed(y, "p00@5");
        y.yard();
        for (int k = 0; k < 7; k++) y.read(0, 35, 0);
        due("b in 9997", y.read(0, 0, 1), 1);
        due("a in 9998", y.read(0, 0, 0), 1);
        due("sooner", y.sooner(0, 1), 1);
        due("no more", y.read(0, 0, 0), FULL);
        due("readings", y.count(3), 9999);
    }

    private static void soonerByTheFirstTime() {
        says("HEARD b first: by the first time of each");
        GraveNews x = plain(with(0), 0);
        x.news(5, 0, 0);
        x.news(5, 1, 0);
        x.read(0, 0, 0);
        x.read(0, 0, 1);
        x.read(0, 0, 0);
        due("a again", x.sooner(0, 0), 0);
        x.undo();
        due("undone", x.sooner(0, 0), 0);
        x.undo();
        x.undo();
        x.read(0, 0, 1);
        x.read(0, 0, 0);
        x.read(0, 0, 1);
        due("b again", x.sooner(0, 0), 1);
        x.undo();
        due("undone", x.sooner(0, 0), 1);
    }

    private static void hiddenAsASet() {
        says("HIDDEN: PLACES in which a READER would not be HEARD by any GRAVE of a set");
        long all = (1L << 36) - 1;
        GraveNews x = graves(with(0, 9), PLAIN, 0, 5, PLAIN, 35, 5, EMPTY, 14, 5);
        due("of nobody", x.hidden(0, 0), all);
        due("of the first", x.hidden(0, 1), all - 1);
        due("of the last", x.hidden(0, 2), all - (1L << 35));
        due("of both", x.hidden(0, 3), all - 1 - (1L << 35));
        due("of the empty one", x.hidden(1, 4), all);
        due("by 9", x.hidden(1, 1), 1L << 35);
        due("by 9", x.hidden(1, 2), 1);
        due("by 9 of both", x.hidden(1, 3), 0);
        x.wind(1);
        due("in wind 1", x.hidden(1, 1), 0);
        due("in wind 1", x.hidden(1, 2), 1 | 2 | 1 << 6);
        due("who is not there", x.hidden(0, 8), BAD);
        due("below 0", x.hidden(0, -1), BAD);
        due("reader 2", x.hidden(2, 1), BAD);
        GraveNews none = with(9);
        due("no graves", none.hidden(0, 0), all);
        due("no graves", none.hidden(0, 1), BAD);
    }

    private static void aloneJustOne() {
        says("ALONE: PLACES where just one GRAVE HEARS: the least such PLACE for a GRAVE");
        GraveNews x = plain(with(0, 1, 9), 35);
        due("of one by 0", x.alone(0, 0), 35);
        due("by 1", x.alone(1, 0), 29);
        due("by 9", x.alone(2, 0), 1);
        plain(x, 34);
        due("by 0", x.alone(0, 1), 34);
        due("by 1", x.alone(1, 0), 29);
        due("by 1", x.alone(1, 1), 28);
        due("by 9: 35 is 9 from 1, 34 is too near", x.alone(2, 0), NONE);
        due("by 9: 34 is 9 from 0", x.alone(2, 1), 0);
        graves(x, EMPTY, 28, 5);
        due("an empty one is no company", x.alone(1, 1), 28);
        due("nor ever alone", x.alone(2, 2), NONE);
        plain(x, 35);
        due("two at one place", x.alone(0, 0), NONE);
        due("grave 4", x.alone(0, 4), BAD);
        due("reader 3", x.alone(3, 0), BAD);
    }

    private static void undoneTenKnown() {
        says("UNDONE: 10 are known, older ones lost");
        GraveNews x = plain(with(0), 0);
        for (int n = 0; n < 12; n++) x.news(5, 0, 0);
        for (int n = 0; n < 12; n++) {
            due("read", x.read(0, 0, n), 1);
            due("known", x.count(7), Math.min(10, n + 1));
        }
        for (int left = 9; left >= 0; left--) {
            due("undo", x.undo(), left);
            due("heard", x.told(0, 3), (1 << left + 2) - 1);
            due("known", x.count(7), left);
            due("readings", x.count(3), left + 2);
        }
        due("older ones are lost", x.undo(), NONE);
        due("heard", x.told(0, 3), 3);
        due("readings", x.count(3), 2);
        x.read(0, 0, 2);
        due("one is known again", x.count(7), 1);
        due("undo", x.undo(), 0);
        due("none more", x.undo(), NONE);
    }

    /** Each of the ten is known by itself: who heard, what, and who was wronged, also when older ones were lost. */
    private static void undoneEachAsItWas() {
        says("UNDONE: the latest of the 10 that are known, one behind the other");
        int[][] rows = {{0, 0, 0}, {0, 1, 0}, {1, 0, 1}, {0, 35, 1}, {0, 0, 2}, {0, 1, 0}, {1, 0, 3}, {0, 1, 2}, {0, 0, 0},
            {1, 0, 4}, {0, 35, 4}, {0, 1, 4}, {0, 0, 5}, {1, 0, 5}};
        GraveNews x = plain(with(0, 1), 0, 1, 35);
        for (int n = 0; n < 6; n++) x.news(5, n == 0 ? 0 : 1 << n - 1, 0);
        int[][] was = new int[rows.length + 1][6];
        for (int k = 0; k <= rows.length; k++) {
            for (int g = 0; g < 3; g++) {
                was[k][g] = x.told(g, 3);
                was[k][3 + g] = x.told(g, 6);
            }
            if (k < rows.length) x.read(rows[k][0], rows[k][1], rows[k][2]);
        }
        for (int left = 9; left >= 0; left--) {
            due("undo", x.undo(), left);
            for (int g = 0; g < 3; g++) {
                due("heard", x.told(g, 3), was[left + 4][g]);
                due("wronged", x.told(g, 6), was[left + 4][3 + g]);
            }
        }
        due("none more", x.undo(), NONE);
    }

    private static void undoneAsIfItHadNotBeen() {
        says("UNDONE: the latest READING is as if it had not been");
        GraveNews x = plain(with(0, 9), 0, 1);
        x.news(5, 0, 0);
        x.news(5, 1, 0);
        x.read(0, 0, 0);
        x.read(1, 0, 1);
        x.read(1, 0, 0);
        due("heard", x.of(0, 5), 3);
        due("wronged", x.told(0, 6), 1);
        due("wronged", x.told(1, 6), 1);
        due("undo", x.undo(), 2);
        due("who had heard it still did", x.of(0, 5), 1);
        due("not wronged by it", x.told(0, 6), 0);
        due("still wronged by the one ahead of it", x.told(1, 6), 1);
        due("readings", x.count(3), 2);
        x.bar(1, 3);
        due("undo", x.undo(), 1);
        due("heard", x.of(1, 5), 0);
        due("wronged", x.count(9), 0);
        due("what was barred since stays", x.of(1, 2), 3);
        x.wind(2);
        x.now(7);
        x.weight(1, 5);
        due("undo", x.undo(), 0);
        due("the wind stays", x.count(8), 2);
        due("the year stays", x.now(0), 7);
        due("the weight stays", x.weight(1, 1), 5);
    }

    private static void undoneByNothingElse() {
        says("a YARD, NEWS, out() leave nothing to be UNDONE");
        GraveNews x = plain(with(0), 0, 1);
        x.news(5, 0, 0);
        x.read(0, 0, 0);
        x.grave(PLAIN, 0, 5);
        x.news(5, 0, 0);
        x.reader(1);
        x.bar(0, 0);
        x.wind(0);
        x.now(0);
        x.seed(1);
        x.weight(0, 1);
        due("all others leave it", x.count(7), 1);
        due("undo", x.undo(), 0);
        due("heard", x.told(0, 3), 0);
        x.read(0, 0, 0);
        due("out", x.out(), 2);
        due("out", x.count(7), 0);
        due("undo", x.undo(), NONE);
        due("heard", x.told(0, 3), 1);
        x.read(0, 0, 1);
        typed(x, "p00@5");
        x.yard();
        due("yard", x.count(7), 0);
        due("undo", x.undo(), NONE);
        x.read(0, 0, 0);
        typed(x, "5,6");
        x.paper();
        due("paper", x.count(7), 0);
        due("undo", x.undo(), NONE);
        x.read(0, 0, 0);
        typed(x, "p00@5,");
        x.yard();
        typed(x, "5,");
        x.paper();
        due("faults leave it", x.count(7), 1);
        x.out();
        x.read(0, 0, 0);
        due("out of none leaves it", x.out(), NONE);
        due("known", x.count(7), 1);
    }

    private static long draw;

    private static int drawn(int many) {
        draw = (draw * 1103515245L + 12345L) % 2147483648L;
        return (int) (draw / 65536L % many);
    }

    private static void lotsDraw() {
        says("LOTS: THE DRAW (1 at first) becomes the lowest 31 bits of itself times 1103515245 and 12345 more");
        long[] seeds = {1, 0, 2, 65535, 65536, 1 << 30, Integer.MAX_VALUE - 1, Integer.MAX_VALUE};
        for (long seed : seeds) {
            GraveNews x = plain(with(0, 1, 9), 0, 7, 14, 35);
            GraveNews y = plain(with(0, 1, 9), 0, 7, 14, 35);
            for (int n = 0; n < 5; n++) {
                x.news(5 + n, n == 0 ? 0 : 1, 0);
                y.news(5 + n, n == 0 ? 0 : 1, 0);
            }
            if (seed != 1) due("seed", x.seed((int) seed), 1);
            draw = seed;
            for (int k = 0; k < 20; k++) {
                int wind = drawn(5), reader = drawn(3), place = drawn(36), news = drawn(5);
                y.wind(wind);
                due("clean of seed " + seed, x.lots(1), y.wronged(reader, place, news) == 0 ? 1 : 0);
                y.read(reader, place, news);
                due("wind", x.count(8), wind);
                for (int g = 0; g < 4; g++) due("heard", x.told(g, 3), y.told(g, 3));
                due("wronged", x.count(9), y.count(9));
            }
            due("the draw", x.seed(0), draw);
        }
    }

    private static void lotsWindStays() {
        says("Drawn is the WIND (it stays)");
        GraveNews x = plain(with(1), 14);
        x.news(5, 0, 0);
        draw = 1;
        int wind = 0;
        for (int k = 0; k < 30; k++) {
            wind = drawn(5);
            drawn(1);
            drawn(36);
            drawn(1);
        }
        x.lots(30);
        due("the wind of the last", x.count(8), wind);
        due("what it was", x.wind(0), wind);
        due("readings", x.count(3), 30);
        due("the draw", x.seed(5), draw);
        due("known", x.count(7), 10);
        int then = x.count(8);
        x.undo();
        due("undone, the wind stays", x.count(8), then);
        due("and the draw", x.seed(1), 5);
    }

    private static void lotsByOne() {
        says("LOTS: n READINGS (1 .. 30)");
        GraveNews x = with(1);
        x.news(5, 0, 0);
        due("0", x.lots(0), BAD);
        due("31", x.lots(31), BAD);
        due("-1", x.lots(-1), BAD);
        due("none was", x.count(3), 0);
        due("no draw was", x.seed(1), 1);
        due("1", x.lots(1), 1);
        due("readings", x.count(3), 1);
        due("30", x.lots(30), 30);
        due("readings", x.count(3), 31);
    }
}
