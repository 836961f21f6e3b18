import java.lang.management.ManagementFactory;

/** What a run makes stays small: all calls of a run live in one room, from which nothing is ever taken away. */
public final class RoomTest {
    private static final long MOST_BYTES_AN_OBJECT = 16_000, MOST_BYTES_OF_CALLS = 40_000;

    public static void main(String[] args) {
        if (!(ManagementFactory.getThreadMXBean() instanceof com.sun.management.ThreadMXBean threads)) return;
        long id = Thread.currentThread().getId();
        calls(new GraveNews());
        long start = threads.getThreadAllocatedBytes(id);
        GraveNews x = new GraveNews();
        long made = threads.getThreadAllocatedBytes(id);
        calls(x);
        long end = threads.getThreadAllocatedBytes(id);
        boolean fits = made - start <= MOST_BYTES_AN_OBJECT && end - made <= MOST_BYTES_OF_CALLS;
        if (fits) return;
        System.out.println("an object takes " + (made - start) + " bytes, its calls " + (end - made));
        System.exit(1);
    }

    /** Each of the calls that might make rows, many times. */
    private static void calls(GraveNews x) {
        for (int g = 0; g < 10; g++) x.grave(g % 6, 3 * g, 5);
        for (int n = 0; n < 12; n++) x.news(5 + n / 2, 0, n % 2);
        for (int r = 0; r < 4; r++) x.reader(2 * r);
        for (int k = 0; k < 6; k++) {
            x.lots(30);
            x.orders(-1);
            x.orders(11);
            x.image();
            x.restore();
            x.sheet(k % 4, k % 4, 36);
            x.which(1, k % 4, k % 4, 0, 12);
            x.judged(k % 4, k % 4, 0, 12);
            x.film(k % 4, k % 4, 0);
            x.copy(k % 4, 0, k % 4, 1, 30);
            x.cover(k % 4, k % 12, -1);
            x.years(1, 1);
            x.likeliest(0, 1);
            typedAll(x, "p00@5,d11@6");
            x.yard();
            typedAll(x, "5,6<a!0,7s,8,9,10,11,12,13,14,15,16");
            x.paper();
            typedAll(x, "000a;100a");
            x.day();
            x.undo();
        }
    }

    private static void typedAll(GraveNews x, String text) {
        for (int i = 0; i < text.length(); i++) x.type(text.charAt(i));
    }
}
