import java.nio.charset.StandardCharsets;

/** What the tests share: counting answers that are not due, and runs of calls that many tests need. */
final class Check {
    private static int right = 0;
    private static int wrong = 0;

    private Check() {
    }

    static void due(String what, long got, long want) {
        if (got == want) {
            right++;
        } else {
            wrong++;
            System.out.println(what + ": answered " + got + ", due is " + want);
        }
    }

    static void due(String what, boolean holds) {
        due(what, holds ? 1 : 0, 1);
    }

    /** Ends the test: with 1 if an answer was wrong, or none was asked. */
    static void end() {
        System.out.println(right + " answers are as due, " + wrong + " are not");
        System.exit(wrong == 0 && right > 0 ? 0 : 1);
    }

    static WaterThanks villages(int... flows) {
        WaterThanks x = new WaterThanks();
        for (int flow : flows) {
            x.village(flow);
        }
        return x;
    }

    /** The first ones of these. */
    static WaterThanks villages(int[] flows, int count) {
        return villages(java.util.Arrays.copyOf(flows, count));
    }

    static void fill(WaterThanks x, int sheet, int sort, int... items) {
        x.sheet(sheet, sort, items.length);
        for (int i = 0; i < items.length; i++) {
            x.put(sheet, i, items[i]);
        }
    }

    /** Gives a village these worths, 0 for those behind them, by sheet 3. */
    static void worths(WaterThanks x, int v, int... first) {
        int[] all = new int[12];
        System.arraycopy(first, 0, all, 0, first.length);
        fill(x, 3, 0, all);
        x.worths(v, 3);
        x.sheet(3, -1, 0);
    }

    static void feed(WaterThanks x, String text) {
        byte[] bytes = text.getBytes(StandardCharsets.ISO_8859_1);
        for (int from = 0; from < bytes.length; from += 8) {
            int n = Math.min(8, bytes.length - from);
            long eight = 0;
            for (int i = 0; i < n; i++) {
                eight |= (bytes[from + i] & 255L) << (8 * i);
            }
            x.feed(eight, n);
        }
    }

    static int read(WaterThanks x, String text) {
        feed(x, text);
        return x.read();
    }

    /** Three villages below one another, most of whose measures are worth something. */
    static WaterThanks threeVillages() {
        WaterThanks x = villages(6, 2, 0);
        worths(x, 0, 20, 15, 10, 5, 5, 5);
        worths(x, 1, 18, 12, 6);
        worths(x, 2, 30, 20, 10, 8, 4, 2, 1);
        return x;
    }
}
