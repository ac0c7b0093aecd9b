import java.util.ArrayList;
import java.util.List;

/** All that calls can tell of an object, so that two objects can be held against one another. */
final class Look {
    private Look() {
    }

    /** What all answer; it spends the object: nothing is to be asked of it behind this. */
    static List<String> at(WaterThanks x) {
        List<String> all = new ArrayList<>();
        for (int what = 0; what < 8; what++) {
            all.add("many(" + what + ") " + x.many(what));
        }
        for (int i = 0; i < x.many(5); i++) {
            all.add("trace(" + i + ") " + x.trace(i));
        }
        rows(x, all);
        land(x, all);
        host(x, all);
        all.add("read() " + x.read());
        all.add("lines read " + x.many(2));
        lets(x, all);
        all.add("again() " + x.again());
        kept(x, all);
        return all;
    }

    private static void rows(WaterThanks x, List<String> all) {
        for (int i = 0; i < x.many(3); i++) {
            for (int what = 0; what < 3; what++) {
                all.add("row(" + i + ", " + what + ") " + x.row(i, what));
            }
        }
        all.add("judge() " + x.judge());
    }

    private static void land(WaterThanks x, List<String> all) {
        for (int v = 0; v < x.many(0); v++) {
            for (int what = 0; what < 6; what++) {
                all.add("villageOf(" + v + ", " + what + ") " + x.villageOf(v, what));
            }
            for (int n = 1; n <= 12; n++) {
                all.add("worth(" + v + ", " + n + ") " + x.worth(v, n));
            }
        }
        for (int y = 0; y < x.many(1); y++) {
            int wet = x.yearOf(y, 0);
            x.yearOf(y, wet);
            all.add("yearOf " + y + ": " + wet);
        }
        lets(x, all);
        uses(x, all);
        sharings(x, all);
        for (int y = -1; y < x.many(1); y++) {
            all.add("kept(" + y + ") " + x.kept(y));
        }
        all.add("lost() " + x.lost());
        all.add("plain(0) " + x.plain(0));
        all.add("breaks(13) " + x.breaks(13));
    }

    private static void uses(WaterThanks x, List<String> all) {
        all.add("best(10) " + x.best(10));
        all.add("best(20) " + x.best(20));
        for (int v = 0; v < x.many(0); v++) {
            all.add("use(" + v + ", 0) " + x.use(v, 0));
            all.add("price(" + v + ") " + x.price(v));
            all.add("most(" + v + ") " + x.most(v));
            all.add("run(0, " + v + ") " + x.run(0, v));
        }
    }

    private static void sharings(WaterThanks x, List<String> all) {
        for (int sharing = 0; sharing < 4; sharing++) {
            all.add("broken(" + sharing + ") " + x.broken(sharing));
            for (int v = 0; v < x.many(0); v++) {
                all.add("share(" + sharing + ", " + v + ", 1) " + x.share(sharing, v, 1));
            }
        }
        for (int v = -1; v < x.many(0); v++) {
            all.add("cleaning(" + v + ") " + x.cleaning(v));
        }
    }

    private static void lets(WaterThanks x, List<String> all) {
        for (int v = 0; v < x.many(0); v++) {
            all.add("treaty(10, " + v + ", 1) " + x.treaty(10, v, 1));
            all.add("treaty(13, " + v + ", 1) " + x.treaty(13, v, 1));
        }
    }

    private static void host(WaterThanks x, List<String> all) {
        for (int s = 0; s < 4; s++) {
            for (int sort = 0; sort < 4; sort++) {
                int size = 0;
                while (size < 41 && !isRefused(x.item(s, sort, size))) {
                    all.add("item(" + s + ", " + sort + ", " + size + ") " + x.item(s, sort, size));
                    size++;
                }
            }
        }
        for (int s = 0; s < 4; s++) {
            for (int as : new int[] {0, 1, 2, 3, 4, 5, 6, 10, 11, 12, 13}) {
                all.add("taken(" + s + ", " + as + ") " + x.taken(s, as));
            }
        }
    }

    /** No test that looks puts such items into a sheet. */
    private static boolean isRefused(int item) {
        return item <= -11 && item >= -13;
    }

    private static void kept(WaterThanks x, List<String> all) {
        for (int what = 0; what < 8; what++) {
            all.add("many(" + what + ") again " + x.many(what));
        }
        for (int v = 0; v < x.many(0); v++) {
            all.add("flow of " + v + " again " + x.villageOf(v, 0));
            all.add("worths of " + v + " again " + x.worth(v, 12));
        }
    }
}
