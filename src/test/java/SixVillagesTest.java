/** All promises with as many villages, years, measures and lines as there can be. */
final class SixVillagesTest {
    private static final int ALL = 6 * 12 * 10;

    public static void main(String[] args) {
        WaterThanks x = most();
        uses(x);
        sharings(x);
        years(x);
        treaties(x);
        rows(x);
        host(x);
        Check.end();
    }

    /** Six villages to each of which 12 come, each measure worth 10, with no bank and harm of 9. */
    private static WaterThanks most() {
        WaterThanks x = Check.villages(12, 12, 12, 12, 12, 12);
        for (int v = 0; v < 6; v++) {
            Check.worths(x, v, 10, 10, 10, 10, 10, 10, 10, 10, 10, 10, 10, 10);
            x.set(v, 1, 0);
            x.set(v, 2, 9);
            x.set(v, 3, 20);
            x.set(v, 4, 0);
            x.set(v, 5, v + 1);
        }
        return x;
    }

    private static void uses(WaterThanks x) {
        Check.due("7: wet 10", x.best(10), ALL);
        // 12, 24 .. 72 pass in the wettest year
        Check.due("7: wet 20", x.best(20), ALL - 9 * 12 * 21);
        for (int v = 0; v < 6; v++) {
            Check.due("8: use of " + v, x.use(v, 0), 12);
            Check.due("8: passes " + v, x.use(v, 1), 0);
            Check.due("8: makes " + v, x.use(v, 2), 120);
            // one measure more harms here and below
            Check.due("9: price of " + v, x.price(v), -9 * (6 - v));
            Check.due("11: most of " + v, x.most(v), 120);
        }
        // of clean 1 to 6 each cleans its own: nothing may pass
        Check.due("15: cleaning", x.cleaning(-1), 20 * (1 + 2 + 3 + 4 + 5));
        Check.due("15: the last one", x.cleaning(5), 0);
    }

    private static void sharings(WaterThanks x) {
        for (int a = 0; a < 6; a++) {
            for (int b = a; b < 6; b++) {
                Check.due("10: run " + a + " to " + b, x.run(a, b), 120 * (b - a + 1));
            }
        }
        for (int sharing = 0; sharing < 4; sharing++) {
            for (int v = 0; v < 6; v++) {
                Check.due("12: share of " + v, x.share(sharing, v, 0), 120);
                Check.due("12: thanks of " + v, x.share(sharing, v, 1), 0);
            }
            Check.due("13: broken " + sharing, x.broken(sharing), 0);
        }
        Check.fill(x, 0, 2, 0, 0, 0, 0, 0, 0);
        Check.due("14: lawful", x.lawful(0), 0);
        Check.fill(x, 0, 2, 0, 0, 0, 0, 1, -1);
        Check.due("14: law 55", x.lawful(0), 155);
        Check.fill(x, 0, 2, 0, 0, 0, 0, -1, 1);
        Check.due("14: law 04 ahead of law 44", x.lawful(0), 104);
    }

    private static void years(WaterThanks x) {
        for (int y = 0; y < 6; y++) {
            x.year(20);
        }
        Check.due("19: without a dam", x.kept(-1), 6 * x.best(20));
        for (int v = 0; v < 6; v++) {
            x.dam(v, 4);
            // four held behind the last year: they don't pass there and below
            Check.due("19: dam at " + v, x.kept(-1), 6 * x.best(20) + 4 * 9 * (6 - v));
            Check.due("19: nothing behind the first", x.kept(0), 0);
            Check.due("19: four behind the last", x.kept(5), 4);
        }
        x.yearOf(5, 0);
        // of no use in the dry year but as much as it can be used
        Check.due("19: four for the dry year", x.kept(-1), 5 * x.best(20) + 4 * 9 + 4 * 10);
        Check.due("19: four behind the last but one", x.kept(4), 4);
        Check.due("19: none behind the last", x.kept(5), 0);
        x.yearOf(5, 20);
    }

    private static void treaties(WaterThanks x) {
        Check.due("23: none lets more than it must", x.lost(), 0);
        Check.due("24: plain", x.plain(0), 0);
        Check.due("24: plain, m", x.plain(1), 0);
        String six = "let 0 12;let 1 24;let 2 36;let 3 48;let 4 60;let 5 99;";
        Check.due("21: six lines", Check.read(x, six), 6);
        for (int v = 0; v < 6; v++) {
            int comes = 24 + 12 * v;
            Check.due("22: comes to " + v, x.treaty(20, v, 0), comes);
            Check.due("22: let by " + v, x.treaty(20, v, 1), v == 5 ? comes : comes - 12);
            Check.due("22: used by " + v, x.treaty(20, v, 2), v == 5 ? 0 : 12);
        }
        Check.due("23: the last one uses none", x.lost(), 6 * (120 + 12 * 9));
        Check.due("25: the last one", x.breaks(20), 5);
        Check.due("21: none let", Check.read(x, "let 5 0;"), 1);
        Check.due("25: none", x.breaks(20), -9);
    }

    private static void rows(WaterThanks x) {
        Check.due("26: rows", x.prove(), 6);
        Check.due("27: the last", x.row(5, 0), 5);
        Check.due("27: none behind", x.row(6, 0), -9);
        Check.due("29: right", x.judge(), 0);
        x.alterRow(5, 1, 11);
        Check.due("29: the last isn't", x.judge(), 6);
        x.alterRow(5, 2, 1);
        Check.due("29: less", x.judge(), 22);
    }

    private static void host(WaterThanks x) {
        Check.fill(x, 1, 1, 1, 2, 3, 4, 5, 6, 7);
        Check.due("33: six flows", x.flows(0, 1, 0, 6), 6);
        Check.due("33: the last", x.villageOf(5, 0), 6);
        Check.due("33: the last alone", x.flows(5, 1, 1, 6), 1);
        Check.due("33: became", x.villageOf(5, 0), 2);
        for (int kind = 0; kind < 7; kind++) {
            Check.due("34: of the last", x.shelf(3, kind, 5), 1);
            Check.due("35: of the last", x.taken(3, kind), 5);
        }
        Check.due("36: the last", x.act(3, 1, 9), 35);
        x.keep();
        for (int v = 0; v < 6; v++) {
            x.set(v, 0, 0);
        }
        x.again();
        Check.due("40: six again", x.villageOf(5, 0), 2);
        Check.due("40: six years", x.many(1), 6);
    }
}
