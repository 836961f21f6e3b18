/** Texts and FAULTS: each rule of what may stand where, on both of its sides; and THE TAPE. */
public final class TextTest {
    private static final int BAD = -1, FULL = -3;

    private static int wrong = 0;
    private static String sentence = "";

    private static void says(String words) {
        sentence = words;
    }

    private static void due(String call, long got, long want) {
        if (got == want) return;
        wrong++;
        System.out.println(sentence + ": " + call + " answered " + got + ", due is " + want);
    }

    public static void main(String[] args) {
        tapeHolds();
        tapeIsEmptyThen();
        anyTextBroken();
        lettersMissing();
        yardHowMany();
        yardKinds();
        yardFigures();
        yardYears();
        yardInPlaceOfAll();
        paperHowMany();
        paperYears();
        paperShort();
        paperAhead();
        paperBarred();
        paperParts();
        paperInPlaceOfAll();
        dayReadersAndNews();
        dayByEachReader();
        dayPlaces();
        dayClean();
        dayNothingByAFault();
        dayHowMany();
        dayTillRefused();
        numbers();
        if (wrong != 0) System.exit(1);
    }

    // ---- helpers

    private enum Kind { YARD, PAPER, DAY }

    /** Three readers, and five news that a DAY may tell; a yard of one. */
    private static GraveNews parish() {
        GraveNews x = new GraveNews();
        for (int r = 0; r < 3; r++) x.reader(r);
        for (int n = 0; n < 5; n++) x.news(5 + n, 0, 0);
        x.grave(0, 0, 5);
        return x;
    }

    private static void typed(GraveNews x, String text) {
        for (int i = 0; i < text.length(); i++) due("type", x.type(text.charAt(i)), i + 1);
    }

    private static int taken(GraveNews x, Kind kind, String text) {
        typed(x, text);
        switch (kind) {
            case YARD: return x.yard();
            case PAPER: return x.paper();
            default: return x.day();
        }
    }

    private static int taken(Kind kind, String text) {
        return taken(parish(), kind, text);
    }

    private static void stands(Kind kind, String text, int answer) {
        due(kind + " \"" + text + "\"", taken(kind, text), answer);
    }

    private static void fault(Kind kind, String text, int place) {
        due(kind + " \"" + text + "\"", taken(kind, text), -20 - place);
    }

    // ---- the tape

    private static void tapeHolds() {
        says("One letter more behind THE TAPE: how many it has. BAD: not 32 .. 126; FULL: 160");
        GraveNews x = new GraveNews();
        due("31", x.type(31), BAD);
        due("127", x.type(127), BAD);
        due("least", x.type(Integer.MIN_VALUE), BAD);
        due("most", x.type(Integer.MAX_VALUE), BAD);
        due("256 and p", x.type(256 + 'p'), BAD);
        int many = 0;
        for (int letter = 32; letter <= 126; letter++) due("letter", x.type(letter), ++many);
        while (many < 160) due("letter", x.type(' '), ++many);
        due("161", x.type(' '), FULL);
        due("161", x.type('~'), FULL);
        due("BAD is named ahead of FULL", x.type(31), BAD);
        due("BAD is named ahead of FULL", x.type(127), BAD);
        due("! is the second", x.yard(), -21);
        due("then empty", x.type('p'), 1);
        says("160 letters are a text");
        GraveNews y = new GraveNews();
        StringBuilder text = new StringBuilder("p00@5");
        while (text.length() < 155) text.insert(0, ' ');
        text.append("  ,e5");
        due("yard", taken(y, Kind.YARD, text.toString()), -180);
        text.setLength(160 - ",e55@89".length());
        due("yard", taken(y, Kind.YARD, text + ",e55@89"), -20 - 153);
        String full = " ".repeat(160 - "p00@5,e55@89".length()) + "p00@5,e55@89";
        due("length", full.length(), 160);
        due("yard", taken(y, Kind.YARD, full), 2);
        due("the last year", y.told(1, 2), 89);
        GraveNews z = new GraveNews();
        typed(z, full.substring(0, 159) + "8");
        due("161", z.type('9'), FULL);
        due("yard", z.yard(), 2);
        due("what was refused is not there", z.told(1, 2), 88);
    }

    private static void tapeIsEmptyThen() {
        says("THE TAPE, which is empty then");
        for (Kind kind : Kind.values()) {
            String good = kind == Kind.YARD ? "p00@5" : kind == Kind.PAPER ? "5" : "000a";
            GraveNews x = parish();
            due("taken", taken(x, kind, good) >= 0 ? 1 : 0, 1);
            due("type behind " + kind, x.type('p'), 1);
            due("a fault", taken(kind, "~"), -20);
            GraveNews y = parish();
            taken(y, kind, "~~~~");
            due("type behind a fault of " + kind, y.type('p'), 1);
            GraveNews z = parish();
            due("of nothing", taken(z, kind, ""), -20);
            due("type behind nothing", z.type('p'), 1);
        }
    }

    // ---- what may not stand

    private static void anyTextBroken() {
        String[] yards = {"p00@5", "d12@89,i34@0", "e55@10,f01@7,n50@80"};
        for (String text : yards) broken(Kind.YARD, text);
        String[] papers = {"5", "10s", "0,99<a", "5,6s<a!0", "10,12<a,14s<ab,11,18!01,19<a!2"};
        for (String text : papers) broken(Kind.PAPER, text);
        String[] days = {"000a", "255e;100a", "010b;111c;222d"};
        for (String text : days) broken(Kind.DAY, text);
    }

    private static boolean figure(String text, int at) {
        return at >= 0 && at < text.length() && text.charAt(at) >= '0' && text.charAt(at) <= '9';
    }

    /** Figures of one number: those of ROW and COLUMN, of READER, of BARRED stand for themselves. */
    private static boolean insideNumber(Kind kind, String text, int at) {
        if (kind == Kind.DAY || !figure(text, at) || !figure(text, at - 1)) return false;
        int start = at - 1;
        while (figure(text, start - 1)) start--;
        char ahead = start == 0 ? ',' : text.charAt(start - 1);
        return kind == Kind.YARD ? ahead == '@' : ahead == ',';
    }

    /** Whether a text that was cut may end there. */
    private static boolean whole(Kind kind, String cut) {
        if (cut.isEmpty()) return false;
        char last = cut.charAt(cut.length() - 1);
        if (kind == Kind.DAY) return last >= 'a' && last <= 'l';
        if (kind == Kind.PAPER) return ",<!".indexOf(last) < 0;
        return figure(cut, cut.length() - 1) && cut.lastIndexOf('@') > cut.lastIndexOf(',');
    }

    private static void broken(Kind kind, String text) {
        int good = taken(kind, text);
        due("\"" + text + "\" stands", good >= 0 ? 1 : 0, 1);
        for (int at = 0; at < text.length(); at++) {
            String ahead = text.substring(0, at), rest = text.substring(at);
            says("the place of the first letter that can't stand there");
            fault(kind, ahead + "~" + rest, at);
            fault(kind, ahead + "~" + rest.substring(1), at);
            says("blanks are passed over, but end a number");
            if (insideNumber(kind, text, at)) fault(kind, ahead + "  " + rest, at + 2);
            else stands(kind, ahead + "  " + rest, good);
            says("the end: how many were typed");
            if (whole(kind, ahead)) {
                due("\"" + ahead + "\" stands (0: not)", taken(kind, ahead) >= 0 ? 1 : 0, 1);
            } else {
                fault(kind, ahead, at);
                fault(kind, ahead + "   ", at + 3);
            }
        }
        says("blanks behind all are passed over");
        stands(kind, text + "   ", good);
        says("the place is of all that were typed");
        fault(kind, "  " + text + " ~", text.length() + 3);
        says("with one sign between");
        fault(kind, text + (kind == Kind.DAY ? ";" : ","), text.length() + 1);
        fault(kind, text + (kind == Kind.DAY ? "," : ";"), text.length());
        fault(kind, (kind == Kind.DAY ? ";" : ",") + text, 0);
        fault(kind, text + (kind == Kind.DAY ? ";;" : ",,") + text, text.length() + 1);
    }

    private static void lettersMissing() {
        says("the first letter that can't stand there, if one is missing");
        fault(Kind.YARD, "00@5", 0);
        fault(Kind.YARD, "p0@5", 2);
        fault(Kind.YARD, "p@5", 1);
        fault(Kind.YARD, "p005", 3);
        fault(Kind.YARD, "p00@,p00@5", 4);
        fault(Kind.YARD, "p00@5p00@5", 5);
        fault(Kind.YARD, "p00@5,00@5", 6);
        fault(Kind.PAPER, "s", 0);
        fault(Kind.PAPER, "<a", 0);
        fault(Kind.PAPER, "5,!0", 2);
        fault(Kind.PAPER, "5,5a", 3);
        fault(Kind.PAPER, "5,5<", 4);
        fault(Kind.PAPER, "5!", 2);
        fault(Kind.DAY, "a", 0);
        fault(Kind.DAY, "0a", 1);
        fault(Kind.DAY, "00a", 2);
        fault(Kind.DAY, "11a", 2);
        fault(Kind.DAY, "000;000a", 3);
        fault(Kind.DAY, "000a000a", 4);
        fault(Kind.DAY, "000a;00a", 7);
        fault(Kind.DAY, "000a;15a", 7);
    }

    // ---- yards

    private static String times(String one, String between, int many) {
        StringBuilder all = new StringBuilder();
        for (int k = 0; k < many; k++) all.append(k == 0 ? "" : between).append(one);
        return all.toString();
    }

    private static void yardHowMany() {
        says("A YARD: 1 to 10 GRAVES");
        fault(Kind.YARD, "", 0);
        for (int many = 1; many <= 10; many++) stands(Kind.YARD, times("p00@5", ",", many), many);
        for (int many = 11; many <= 14; many++) fault(Kind.YARD, times("p00@5", ",", many), 59);
        fault(Kind.YARD, times("p00@5", ",", 10) + ",", 59);
        fault(Kind.YARD, times("p00@5", ",", 10) + "  ,", 61);
        fault(Kind.YARD, times("p00@5", ",", 9) + ",", 54);
    }

    private static void yardKinds() {
        says("p d i e f n (KINDS 0 .. 5 in this order)");
        String kinds = "pdiefn";
        for (int letter = 33; letter <= 126; letter++) {
            GraveNews x = parish();
            int kind = kinds.indexOf(letter);
            due("letter " + letter, taken(x, Kind.YARD, (char) letter + "12@7"), kind < 0 ? -20 : 1);
            if (kind >= 0) due("kind", x.told(0, 0), kind);
        }
    }

    private static void yardFigures() {
        says("a figure (ROW) and a figure (COLUMN) 0 .. 5");
        for (int letter = 33; letter <= 126; letter++) {
            boolean is = letter >= '0' && letter <= '5';
            GraveNews x = parish();
            due("row " + letter, taken(x, Kind.YARD, "p" + (char) letter + "3@7"), is ? 1 : -21);
            if (is) due("place", x.told(0, 1), 6 * (letter - '0') + 3);
            GraveNews y = parish();
            due("column " + letter, taken(y, Kind.YARD, "p3" + (char) letter + "@7"), is ? 1 : -22);
            if (is) due("place", y.told(0, 1), 18 + letter - '0');
            due("at " + letter, taken(Kind.YARD, "p33" + (char) letter + "7"), letter == '@' ? 1 : -23);
        }
    }

    private static void yardYears() {
        says("@ and a number 0 .. 89 (YEAR)");
        for (int year = 0; year <= 120; year++) {
            GraveNews x = parish();
            due("year " + year, taken(x, Kind.YARD, "p00@3,p00@" + year), year <= 89 ? 2 : -20 - 10);
            if (year <= 89) due("told", x.told(1, 2), year);
        }
    }

    private static void yardInPlaceOfAll() {
        says("a YARD: in place of all GRAVES (nothing is HEARD, nobody WRONGED, NEWS keep what is BARRED)");
        GraveNews x = new GraveNews();
        for (int g = 0; g < 10; g++) x.grave(0, 0, 5);
        x.news(5, 0, 0);
        x.reader(9);
        x.bar(0, 1023);
        x.read(0, 0, 0);
        due("wronged", x.count(9), 10);
        due("yard", taken(x, Kind.YARD, "d01@6,p02@7"), 2);
        due("graves", x.count(0), 2);
        due("no third", x.told(2, 0), BAD);
        due("told", x.told(0, 0) * 10000 + x.told(0, 1) * 100 + x.told(0, 2), 10106);
        due("heard", x.of(0, 5), 0);
        due("wronged", x.count(9), 0);
        due("barred", x.of(0, 2), 1023);
        due("news", x.count(1), 1);
        due("readers", x.count(2), 1);
        due("readings so far", x.count(3), 1);
        due("a third may come", x.grave(0, 0, 5), 2);
        due("heard nothing", x.told(2, 3), 0);
        due("not wronged", x.told(2, 6), 0);
    }

    // ---- news

    private static void paperHowMany() {
        says("NEWS: 1 to 12");
        fault(Kind.PAPER, "", 0);
        for (int many = 1; many <= 12; many++) stands(Kind.PAPER, times("5", ",", many), many);
        for (int many = 13; many <= 20; many++) fault(Kind.PAPER, times("5", ",", many), 23);
        fault(Kind.PAPER, times("5", ",", 12) + ",", 23);
        fault(Kind.PAPER, times("5", ",", 12) + " ,", 24);
        fault(Kind.PAPER, times("5", ",", 11) + ",", 22);
    }

    private static void paperYears() {
        says("a number 0 .. 99 (YEAR)");
        for (int year = 0; year <= 120; year++) {
            GraveNews x = parish();
            due("year " + year, taken(x, Kind.PAPER, "3," + year), year <= 99 ? 2 : -22);
            if (year <= 99) due("of", x.of(1, 0), year);
        }
        for (int letter = 33; letter <= 126; letter++) {
            boolean is = letter >= '0' && letter <= '9';
            due("first letter " + letter, taken(Kind.PAPER, "" + (char) letter), is ? 1 : -20);
        }
    }

    private static void paperShort() {
        says("perhaps s (SHORT)");
        GraveNews x = parish();
        due("paper", taken(x, Kind.PAPER, "5,5s,5 s"), 3);
        due("not", x.of(0, 3), 0);
        due("short", x.of(1, 3), 1);
        due("short", x.of(2, 3), 1);
        fault(Kind.PAPER, "5ss", 2);
        fault(Kind.PAPER, "5S", 1);
        fault(Kind.PAPER, "s5", 0);
    }

    private static void paperAhead() {
        says("perhaps < and letters a .. l (AHEAD: told ahead)");
        for (int many = 1; many <= 11; many++) {
            String told = times("5", ",", many);
            for (int letter = 'a'; letter <= 'm'; letter++) {
                GraveNews x = parish();
                int at = 2 * many - 1 + ",5<".length();
                boolean is = letter - 'a' < many;
                due("letter " + (char) letter + " behind " + many, taken(x, Kind.PAPER, told + ",5<" + (char) letter),
                    is ? many + 1 : -20 - at);
                if (is) due("of", x.of(many, 1), 1 << letter - 'a');
            }
        }
        fault(Kind.PAPER, "5<a", 2);
        fault(Kind.PAPER, "5,5<", 4);
        fault(Kind.PAPER, "5,5<,5", 4);
        fault(Kind.PAPER, "5,5<!0", 4);
        fault(Kind.PAPER, "5,5<`", 4);
        fault(Kind.PAPER, "5,5<A", 4);
        fault(Kind.PAPER, "5,5<a1", 5);
        stands(Kind.PAPER, times("5", ",", 11) + ",5<abcdefghijk", 12);
        stands(Kind.PAPER, times("5", ",", 11) + ",5<kjihgfedcba", 12);
        says("AHEAD: none twice");
        fault(Kind.PAPER, "5,5<aa", 5);
        fault(Kind.PAPER, "5,5,5<aba", 8);
        fault(Kind.PAPER, "5,5,5<a b b", 10);
        says("AHEAD: of no later YEAR");
        stands(Kind.PAPER, "5,5<a", 2);
        stands(Kind.PAPER, "5,6<a", 2);
        fault(Kind.PAPER, "6,5<a", 4);
        fault(Kind.PAPER, "5,7,6<ab", 7);
        stands(Kind.PAPER, "5,7,6<a", 3);
        fault(Kind.PAPER, "99,98<a", 6);
        fault(Kind.PAPER, "10,9<a", 5);
    }

    private static void paperBarred() {
        says("perhaps ! and figures 0 .. 9 (BARRED)");
        for (int letter = 33; letter <= 126; letter++) {
            GraveNews x = parish();
            boolean is = letter >= '0' && letter <= '9';
            due("figure " + letter, taken(x, Kind.PAPER, "5!" + (char) letter), is ? 1 : -22);
            if (is) due("of", x.of(0, 2), 1 << letter - '0');
        }
        GraveNews x = parish();
        due("paper", taken(x, Kind.PAPER, "5!9876543210,6!0 9"), 2);
        due("all, though one is there", x.of(0, 2), 1023);
        due("two", x.of(1, 2), 513);
        fault(Kind.PAPER, "5!", 2);
        fault(Kind.PAPER, "5!,6", 2);
        says("BARRED: none twice");
        fault(Kind.PAPER, "5!00", 3);
        fault(Kind.PAPER, "5!010", 4);
        fault(Kind.PAPER, "5!0123456789 0", 13);
        fault(Kind.PAPER, "5!99", 3);
    }

    private static void paperParts() {
        says("a number, perhaps s, perhaps <, perhaps !, in this order");
        stands(Kind.PAPER, "5,5s<a!0", 2);
        stands(Kind.PAPER, "5,5<a!0", 2);
        stands(Kind.PAPER, "5,5s!0", 2);
        stands(Kind.PAPER, "5,5s<a", 2);
        fault(Kind.PAPER, "5,5<as", 5);
        fault(Kind.PAPER, "5,5!0s", 5);
        fault(Kind.PAPER, "5,5!0<a", 5);
        fault(Kind.PAPER, "5,5<a<a", 5);
        fault(Kind.PAPER, "5,5!0!1", 5);
        fault(Kind.PAPER, "5,5s s", 5);
    }

    private static void paperInPlaceOfAll() {
        says("NEWS: in place of all NEWS (nothing is HEARD, nobody WRONGED)");
        GraveNews x = new GraveNews();
        x.grave(0, 0, 5);
        x.grave(0, 0, 5);
        for (int n = 0; n < 12; n++) x.news(5, (1 << n) - 1, 1);
        for (int n = 0; n < 12; n++) x.bar(n, 1023);
        x.reader(9);
        for (int n = 11; n >= 0; n--) x.read(0, 0, n);
        due("orders", x.orders(-1), 1);
        due("wronged", x.count(9), 24);
        due("paper", taken(x, Kind.PAPER, "5,6"), 2);
        due("news", x.count(1), 2);
        due("no third", x.of(2, 0), BAD);
        due("orders", x.orders(-1), 2);
        for (int k = 1; k < 6; k++) due("of " + k, x.of(0, k), k == 4 ? 3 : 0);
        due("heard", x.told(0, 3), 0);
        due("wronged", x.count(9), 0);
        due("sooner", x.sooner(0, 0), 0);
        due("graves", x.count(0), 2);
        due("readings so far", x.count(3), 12);
        due("a third may come", x.news(5, 3, 0), BAD);
        due("a third may come", x.news(6, 3, 0), 2);
        due("it is not heard", x.of(2, 5), 0);
        due("it is not barred", x.of(2, 2), 0);
    }

    // ---- days

    private static void dayReadersAndNews() {
        says("A DAY: a figure (READER), a letter a .. l (NEWS); READERS, NEWS there are");
        for (int readers = 0; readers <= 4; readers++) {
            for (int letter = '0'; letter <= '9'; letter++) {
                GraveNews x = new GraveNews();
                for (int r = 0; r < readers; r++) x.reader(0);
                x.news(5, 0, 0);
                boolean is = letter - '0' < readers;
                due("reader " + (char) letter + " of " + readers, taken(x, Kind.DAY, (char) letter + "00a"), is ? 1 : -20);
                due("readings", x.count(3), is ? 1 : 0);
            }
        }
        for (int news = 0; news <= 12; news++) {
            GraveNews x = new GraveNews();
            x.reader(0);
            for (int n = 0; n < news; n++) x.news(5, 0, 0);
            for (int letter = 'a'; letter <= 'n'; letter++) {
                boolean is = letter - 'a' < news;
                due("news " + (char) letter + " of " + news, taken(x, Kind.DAY, "000" + (char) letter), is ? 1 : -23);
            }
            due("news `", taken(x, Kind.DAY, "000`"), -23);
            due("news A", taken(x, Kind.DAY, "000A"), -23);
            due("readings", x.count(3), news);
        }
    }

    private static void dayByEachReader() {
        says("A DAY: a figure (READER): by that one");
        for (int reader = 0; reader < 4; reader++) {
            for (int place = 0; place < 5; place++) {
                GraveNews x = new GraveNews();
                for (int r = 0; r < 4; r++) x.reader(r);
                x.news(5, 0, 0);
                x.grave(0, 0, 5);
                taken(x, Kind.DAY, reader + "0" + place + "a");
                due("reader " + reader + " at " + place, x.told(0, 3), place <= reader ? 1 : 0);
            }
        }
        for (int news = 0; news < 5; news++) {
            GraveNews x = parish();
            due("news " + news, taken(x, Kind.DAY, "000" + (char) ('a' + news)), 1);
            due("heard", x.told(0, 3), 1 << news);
        }
    }

    private static void dayPlaces() {
        says("A DAY: a figure (ROW), a figure (COLUMN)");
        for (int row = 0; row < 10; row++) {
            for (int column = 0; column < 10; column++) {
                GraveNews x = new GraveNews();
                x.reader(0);
                x.news(5, 0, 0);
                boolean is = row < 6 && column < 6;
                x.grave(0, is ? 6 * row + column : 0, 5);
                due("day at " + row + column, taken(x, Kind.DAY, "0" + row + column + "a"), is ? 1 : row < 6 ? -22 : -21);
                due("heard there", x.told(0, 3), is ? 1 : 0);
            }
        }
    }

    private static void dayClean() {
        says("how many READINGS are CLEAN (they are done as by read())");
        GraveNews x = parish();
        GraveNews y = parish();
        due("day", taken(x, Kind.DAY, "000a;000a;000b;055b;100c;100c"), 4);
        due("reads", y.read(0, 0, 0) + y.read(0, 0, 0) + y.read(0, 0, 1) + y.read(0, 35, 1) + y.read(1, 0, 2)
            + y.read(1, 0, 2), 5);
        for (int k = 0; k < 10; k++) due("count " + k, x.count(k), y.count(k));
        for (int k = 0; k < 8; k++) due("told " + k, x.told(0, k), y.told(0, k));
        due("undo", x.undo(), 5);
        due("undone", x.told(0, 6), 1);
        due("none is clean", taken(x, Kind.DAY, "000a;000b"), 0);
    }

    private static void dayNothingByAFault() {
        says("A DAY: a FAULT (nothing is done)");
        GraveNews x = parish();
        due("the last is none", taken(x, Kind.DAY, "000a;000b;000f"), -33);
        due("the end is missing", taken(x, Kind.DAY, "000a;000b;000"), -33);
        due("one more is missing", taken(x, Kind.DAY, "000a;000b;"), -30);
        due("readings", x.count(3), 0);
        due("heard", x.told(0, 3), 0);
        due("to be undone", x.count(7), 0);
        due("then it is done", taken(x, Kind.DAY, "000a;000b"), 2);
    }

    private static void dayHowMany() {
        says("A DAY: READINGS with ; between");
        for (int many = 1; many <= 32; many++) {
            GraveNews x = parish();
            due("of " + many, taken(x, Kind.DAY, times("055a", ";", many)), many);
            due("readings", x.count(3), many);
            due("known", x.count(7), Math.min(10, many));
        }
        fault(Kind.DAY, times("055a", ";", 32) + ";", 160);
        fault(Kind.DAY, times("055a", ";", 31) + ";055f", 158);
        fault(Kind.DAY, "", 0);
    }

    private static void dayTillRefused() {
        says("they are done as by read(), till one is refused");
        for (int room = 0; room <= 3; room++) {
            GraveNews x = new GraveNews();
            x.reader(0);
            x.news(5, 0, 0);
            for (int k = 0; k < 333; k++) x.lots(30);
            x.lots(9 - room);
            due("readings", x.count(3), 9999 - room);
            x.grave(0, 0, 5);
            x.wind(0);
            due("three with room for " + room, taken(x, Kind.DAY, "055a;000a;001a"), room);
            due("readings", x.count(3), 9999);
            due("heard", x.told(0, 3), room >= 2 ? 1 : 0);
            due("known", x.count(7), 10);
            due("a fault is one, full or not", taken(x, Kind.DAY, "055b"), -23);
        }
    }

    // ---- numbers

    private static void numbers() {
        says("of a number that may not be its first figure");
        fault(Kind.YARD, "p00@90", 4);
        fault(Kind.YARD, "p00@ 90", 5);
        fault(Kind.YARD, "p00@100", 4);
        fault(Kind.YARD, "p00@899", 4);
        fault(Kind.YARD, "p00@2147483653", 4);
        fault(Kind.YARD, "p00@4294967301", 4);
        fault(Kind.YARD, "p00@18446744073709551621", 4);
        fault(Kind.YARD, "p00@90~", 4);
        fault(Kind.PAPER, "100", 0);
        fault(Kind.PAPER, "5, 100s", 3);
        fault(Kind.PAPER, "999", 0);
        fault(Kind.PAPER, "2147483653", 0);
        fault(Kind.PAPER, "4294967301", 0);
        fault(Kind.PAPER, "18446744073709551621", 0);
        says("blanks end a number");
        fault(Kind.YARD, "p00@8 9", 6);
        fault(Kind.YARD, "p00@9 0", 6);
        fault(Kind.PAPER, "9 9", 2);
        fault(Kind.PAPER, "10 0", 3);
        says("a number may have zeroes ahead");
        stands(Kind.YARD, "p00@089", 1);
        stands(Kind.PAPER, "00099", 1);
        fault(Kind.YARD, "p00@0090", 4);
        fault(Kind.PAPER, "00100", 0);
    }
}
