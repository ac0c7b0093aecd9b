/** Promises 20 to 25. */
final class TreatyTest {
    private static final int LOW_BAD = -1000001;
    private static final int MIN = Integer.MIN_VALUE;
    private static final int MAX = Integer.MAX_VALUE;

    public static void main(String[] args) {
        promise20();
        promise21Lines();
        promise21Faults();
        promise21Bounds();
        promise21Tape();
        promise21Conditions();
        promise22();
        promise22LastLine();
        promise23();
        promise24();
        promise25();
        Check.end();
    }

    private static void promise20() {
        WaterThanks x = new WaterThanks();
        Check.due("20: no bytes", x.feed(0L, 0), -1);
        Check.due("20: -1 bytes", x.feed(0L, -1), -1);
        Check.due("20: 9 bytes", x.feed(0L, 9), -1);
        Check.due("20: extremes", x.feed(Long.MIN_VALUE, MIN), -1);
        for (int i = 1; i <= 24; i++) {
            Check.due("20: eights", x.feed(-1L, 8), 8 * i);
        }
        Check.due("20: 7", x.feed(0L, 7), 199);
        Check.due("20: two too many", x.feed(0L, 2), -2);
        Check.due("20: refused", x.many(4), 199);
        Check.due("20: the last", x.feed(0L, 1), 200);
        Check.due("20: full", x.feed(0L, 1), -2);
        Check.due("20: bad ahead of full", x.feed(0L, 9), -1);
        Check.due("20: a byte that is none of a text", x.read(), -100);
        Check.due("20: used up", x.feed(0L, 1), 1);
        // lowest first, and only as many as told
        x.read();
        x.feed(0x2020202074656cL, 4);
        x.feed(0xffff203020L, 3);
        x.feed(0xff3b37L, 2);
        Check.due("20: bytes", x.many(4), 9);
        Check.due("20: let 0 7;", x.read(), 1);
    }

    private static void promise21Lines() {
        WaterThanks x = new WaterThanks();
        Check.due("21: no text", x.read(), 0);
        reads(x, "   ", 0);
        reads(x, "let 0 3;", 1);
        reads(x, "let0 3;", 1);
        reads(x, "  let   5  99  ;  ", 1);
        reads(x, "let 005 099;", 1);
        reads(x, "let 0 3;let 1 4;let 0 5;", 3);
        reads(x, "let 0 1 if wet<1;", 1);
        reads(x, "let 0 1if wet<1;", 1);
        reads(x, "let 0 1 if 999 > comes;", 1);
        reads(x, "let 0 1 if 1=2 or flow<3 and wet>4;", 1);
        reads(x, "let 0 1 if not(1=2)or(flow<3)and not not wet>4;", 1);
        reads(x, "let 0 1 if (((1=1)))and(((1=1))or((1=1)));", 1);
        reads(x, "let 0 1;let 1 1;let 2 1;let 3 1;let 4 1;let 5 1;let 0 1;let 0 1;", 8);
        Check.due("21: how many lines", x.many(2), 8);
    }

    private static void reads(WaterThanks x, String text, int due) {
        Check.due("21: " + text, Check.read(x, text), due);
    }

    private static void fault(WaterThanks x, String text, int place) {
        Check.due("21: fault of " + text, Check.read(x, text), -100 - place);
    }

    private static void promise21Faults() {
        WaterThanks x = new WaterThanks();
        fault(x, ";", 0);
        fault(x, "  lets 0 1;", 2);
        fault(x, "le 0 1;", 0);
        fault(x, "Let 0 1;", 0);
        fault(x, "leta 0 1;", 0);
        fault(x, "letz 0 1;", 0);
        fault(x, "let 0 1z;", 7);
        fault(x, "let 0 1`;", 7);
        fault(x, "let 0 1{;", 7);
        fault(x, "let 0 1/;", 7);
        fault(x, "let 0 1:;", 7);
        fault(x, "if 0 1;", 0);
        fault(x, "let", 3);
        fault(x, "let  ", 5);
        fault(x, "let x", 4);
        fault(x, "let ;", 4);
        fault(x, "let 0", 5);
        fault(x, "let 0;", 5);
        fault(x, "let 0 1", 7);
        fault(x, "let 0 1  ", 9);
        fault(x, "let 0 1 2;", 8);
        fault(x, "let 0 1 let", 8);
        fault(x, "let 0 1;;", 8);
        fault(x, "let 0 1; 7", 9);
        fault(x, "let 0 1 if", 10);
        fault(x, "let 0 1 if;", 10);
        fault(x, "let 0 1 if wet;", 14);
        fault(x, "let 0 1 if wet 3;", 15);
        fault(x, "let 0 1 if wet<;", 15);
        fault(x, "let 0 1 if wet<<3;", 15);
        fault(x, "let 0 1 if wet<3", 16);
        fault(x, "let 0 1 if wet<3 4;", 17);
        fault(x, "let 0 1 if wet<3 not 1=1;", 17);
        fault(x, "let 0 1 if wet<3 and;", 20);
        fault(x, "let 0 1 if wet<3 or or;", 20);
        fault(x, "let 0 1 if wet<3);", 16);
        fault(x, "let 0 1 if (wet<3;", 17);
        fault(x, "let 0 1 if (wet)<3;", 15);
        fault(x, "let 0 1 if ();", 12);
        fault(x, "let 0 1 if not;", 14);
        fault(x, "let 0 1 if wet < let;", 17);
        fault(x, "let 0 1 if wets < 1;", 11);
        fault(x, "let 0 1 if <1;", 11);
        fault(x, "let 0 1 if wet=1 if wet=1;", 17);
        fault(x, "let\t0 1;", 3);
        fault(x, "let 0 1\n;", 7);
        fault(x, "let 0 -1;", 6);
        fault(x, "let 0 1;\u00e9", 8);
        fault(x, "let 0 1 if wet\u0000<1;", 14);
    }

    private static void promise21Bounds() {
        WaterThanks x = new WaterThanks();
        fault(x, "let 6 1;", 4);
        fault(x, "let 10 1;", 4);
        fault(x, "let 0000 1;", 4);
        fault(x, "let 0 100;", 6);
        fault(x, "let 0 0001;", 6);
        fault(x, "let 0 1 if 1000=1;", 11);
        fault(x, "let 0 1 if 1=0000;", 13);
        fault(x, "let 0 1 if 1=99999999999999999999;", 13);
        fault(x, "let 0 1 if ((((1=1))));", 14);
        fault(x, "let 0 1 if (((1=1)) and ((1=1)) or not (((1=1))));", 41);
        fault(x, "let 0 1;let 1 1;let 2 1;let 3 1;let 4 1;let 5 1;let 0 1;let 0 1; let 0 1;", 65);
        fault(x, "let 0 1;let 1 1;let 2 1;let 3 1;let 4 1;let 5 1;let 0 1;let 0 1;if", 64);
        reads(x, "let 0 1;let 1 1;let 2 1;let 3 1;let 4 1;let 5 1;let 0 1;let 0 1;  ", 8);
        // the first fault counts, and a word of one thing may end in a fault of another
        fault(x, "let 6 100 if;", 4);
        StringBuilder nots = new StringBuilder("let 0 1 if ");
        for (int i = 0; i < 46; i++) {
            nots.append("not ");
        }
        reads(x, nots + "1=1;", 1);
        fault(x, nots + "1=1", 198);
        StringBuilder all = new StringBuilder("let 0 1 if 1=1");
        for (int i = 0; i < 22; i++) {
            all.append(i % 2 == 0 ? "and 1=1" : "or  2=1");
        }
        reads(x, all + ";", 1);
    }

    private static void promise21Tape() {
        WaterThanks x = Check.villages(9);
        reads(x, "let 0 3;let 0 4 if wet>10;", 2);
        fault(x, "let 0 5;let", 11);
        Check.due("21: fault, the tape is used up", x.many(4), 0);
        Check.due("21: fault, the treaty stays", x.many(2), 2);
        Check.due("21: fault, it lets as ever", x.treaty(10, 0, 1), 3);
        Check.due("21: fault, its condition stays", x.treaty(11, 0, 1), 4);
        reads(x, "let 0 5;", 1);
        Check.due("21: read, the tape is used up", x.many(4), 0);
        Check.due("21: read", x.treaty(11, 0, 1), 5);
        Check.due("21: nothing fed", x.read(), 0);
        Check.due("21: no lines", x.many(2), 0);
        Check.due("21: nothing let", x.treaty(11, 0, 1), 0);
    }

    /** Lets 1 pass in a year of wet 7 at a village of flow 10, to which 10 * 7 by 10 come. */
    private static void holds(String condition, boolean due) {
        WaterThanks x = Check.villages(10);
        Check.due("21: " + condition, Check.read(x, "let 0 1 if " + condition + ";"), 1);
        Check.due("22: " + condition, x.treaty(7, 0, 1), due ? 1 : 0);
    }

    private static void promise21Conditions() {
        holds("0 < wet", true);
        holds("wet > 0", true);
        holds("0 = 0", true);
        holds("0 < 0", false);
        holds("0 < 0 or 0 < 0", false);
        holds("0 = 00 and 9 = 009 and 90 > 89", true);
        holds("wet = 7", true);
        holds("wet = 8", false);
        holds("comes = 7", true);
        holds("flow = 10", true);
        holds("flow = 7", false);
        holds("wet < 8", true);
        holds("wet < 7", false);
        holds("wet > 6", true);
        holds("wet > 7", false);
        holds("6 < wet", true);
        holds("flow > comes", true);
        holds("999 > 998", true);
        holds("007 = wet", true);
        holds("not wet = 7", false);
        holds("not not wet = 7", true);
        holds("not not not wet = 7", false);
        holds("1=1 or 1=1 and 1=2", true);
        holds("1=2 and 1=1 or 1=1", true);
        holds("1=2 and (1=1 or 1=1)", false);
        holds("(1=1 or 1=1) and 1=2", false);
        holds("not 1=1 or 1=1", true);
        holds("not (1=1 or 1=1)", false);
        holds("not 1=2 and 1=2", false);
        holds("not (1=2 and 1=2)", true);
        holds("1=2 or 1=2 or 1=1", true);
        holds("1=1 and 1=1 and 1=2", false);
        holds("1=2 or (1=1 and (1=2 or (1=1 and not 1=2)))", true);
        holds("1=1 and (1=2 or (1=1 and (1=2 or 1=2)))", false);
    }

    private static void promise22() {
        WaterThanks x = Check.threeVillages();
        Check.due("22: no treaty lets none", x.treaty(10, 0, 1), 0);
        Check.due("22: no treaty, as in KEEP", x.treaty(10, 0, 3), 60);
        Check.read(x, "let 0 4; let 1 99; let 2 1; let 5 9;");
        int[][] due = {{6, 4, 2, 35}, {6, 6, 0, 0}, {6, 1, 5, 72}};
        for (int v = 0; v < 3; v++) {
            for (int what = 0; what < 4; what++) {
                Check.due("22: treaty(10, " + v + ", " + what + ")", x.treaty(10, v, what), due[v][what]);
            }
        }
        x.set(1, 1, 4);
        x.set(1, 2, 3);
        Check.due("22: harm", x.treaty(10, 1, 3), -6);
        Check.due("22: what can't be used passes, too", x.treaty(20, 1, 0), 10);
        Check.due("22: wet 20, what can be used at 0", x.treaty(20, 0, 2), 6);
        Check.due("22: wet 0", x.treaty(0, 0, 1), 0);
        Check.due("22: wet 21", x.treaty(21, 0, 0), LOW_BAD);
        Check.due("22: wet -1", x.treaty(-1, 0, 0), LOW_BAD);
        Check.due("22: village 3", x.treaty(10, 3, 0), LOW_BAD);
        Check.due("22: village -1", x.treaty(10, -1, 0), LOW_BAD);
        Check.due("22: what 4", x.treaty(10, 0, 4), LOW_BAD);
        Check.due("22: what -1", x.treaty(10, 0, -1), LOW_BAD);
        Check.due("22: extremes", x.treaty(MIN, MAX, MIN), LOW_BAD);
        WaterThanks y = Check.villages(12);
        Check.worths(y, 0, 1, 1, 1, 1, 1, 1, 1, 1, 1, 1, 1, 1);
        Check.due("22: 12 used at most", y.treaty(20, 0, 2), 12);
        Check.due("22: all the same come", y.treaty(20, 0, 0), 24);
    }

    private static void promise22LastLine() {
        WaterThanks x = Check.villages(5, 3);
        Check.worths(x, 0, 9, 8, 7, 6, 5, 4, 3, 2, 1);
        Check.worths(x, 1, 10, 9, 8, 7, 6, 5, 4, 3, 2, 1);
        Check.read(x, "let 0 3 if comes > 4; let 1 2 if wet < 6 or flow = 3; let 0 1 if wet = 20;");
        Check.due("22: a line that holds", x.treaty(10, 0, 1), 3);
        Check.due("22: the last one that holds", x.treaty(20, 0, 1), 1);
        Check.due("22: none holds", x.treaty(5, 0, 1), 0);
        Check.due("22: or", x.treaty(10, 1, 1), 2);
        Check.due("22: what comes at most", x.treaty(5, 1, 1), 1);
        Check.due("22: makes", x.treaty(10, 1, 3), 34);
        Check.read(x, "let 0 1 if wet = 20; let 0 2; let 0 4 if wet < 3;");
        Check.due("22: one without a condition comes later", x.treaty(20, 0, 1), 2);
        // flow of its own, comes with what passes the one above
        Check.read(x, "let 0 5; let 1 7 if comes = 8 and flow = 3 and wet = 10;");
        Check.due("22: what comes by the treaty", x.treaty(10, 1, 1), 7);
    }

    private static void promise23() {
        WaterThanks x = Check.villages(5, 3);
        Check.worths(x, 0, 9, 8, 7, 6, 5, 4, 3, 2, 1);
        Check.worths(x, 1, 10, 9, 8, 7, 6, 5, 4, 3, 2, 1);
        Check.read(x, "let 0 3 if comes > 4; let 1 2 if wet < 6 or flow = 3; let 0 1 if wet = 20;");
        Check.due("23: no years", x.lost(), 0);
        x.year(10);
        int ten = x.lost();
        Check.due("23: wet 10", ten, x.best(10) - x.treaty(10, 0, 3) - x.treaty(10, 1, 3));
        Check.due("23: wet 10, best", x.best(10), 30 + 34);
        Check.due("23: wet 10, lost", ten, 64 - 17 - 34);
        x.year(10);
        Check.due("23: twice", x.lost(), 2 * ten);
        x.yearOf(1, 5);
        // wet 5: 2 used above and the 1 that comes below let pass, of 10, 9 and 9 in BEST
        Check.due("23: unlike years", x.lost(), 64 - 51 + 28 - 17);
        x.dam(0, 4);
        Check.due("23: the dam counts nothing", x.lost(), 64 - 51 + 28 - 17);
    }

    private static void promise24() {
        WaterThanks x = Check.villages(4, 0);
        Check.due("24: no years", x.plain(0), 0);
        Check.worths(x, 0, 5, 5, 5, 5);
        Check.worths(x, 1, 9, 8, 1);
        x.year(10);
        // what one above lets pass for m must pass the one below, too: the least m loses least
        Check.due("24: 20 of 27", x.plain(0), 7);
        Check.due("24: least m", x.plain(1), 0);
        x.year(5);
        Check.due("24: and 10 of 17", x.plain(0), 14);
        Check.read(x, "let 0 3;");
        Check.due("24: the treaty counts nothing", x.plain(0), 14);
        x.dam(0, 4);
        Check.due("24: nor does the dam", x.plain(0), 14);
        Check.due("24: what 2", x.plain(2), -1);
        Check.due("24: what -1", x.plain(-1), -1);
        Check.due("24: extremes", x.plain(MIN), -1);
        WaterThanks y = Check.villages(12, 6);
        Check.worths(y, 0, 1, 1, 1, 1, 1, 1, 1, 1, 1, 1, 1, 1);
        Check.worths(y, 1, 9, 9, 9, 9, 9, 9, 9, 9, 9, 9, 9, 9);
        y.year(10);
        Check.due("24: 12 and 54 of 108 and 6", y.plain(0), 48);
        Check.due("24: all m lose as much below", y.plain(1), 0);
        y.yearOf(0, 20);
        Check.due("24: what can't be used passes anyway", y.plain(0), 0);
        Check.due("24: first of several", y.plain(1), 0);
    }

    private static void promise25() {
        WaterThanks x = Check.villages(5, 3);
        Check.worths(x, 0, 9, 8);
        Check.worths(x, 1, 10, 9, 8, 7, 6, 5, 4, 3, 2, 1);
        Check.due("25: no treaty", x.breaks(10), -9);
        Check.read(x, "let 0 4; let 1 1;");
        Check.due("25: the first", x.breaks(10), 0);
        Check.read(x, "let 0 3; let 1 1;");
        Check.due("25: what it couldn't use", x.breaks(10), 1);
        Check.read(x, "let 0 3; let 2 9;");
        Check.due("25: none", x.breaks(10), -9);
        Check.read(x, "let 1 1;");
        Check.due("25: the second one", x.breaks(10), 1);
        Check.due("25: dry", x.breaks(0), -9);
        Check.due("25: wet 18", x.breaks(18), -9);
        Check.due("25: wet 14", x.breaks(14), 1);
        Check.due("25: wet 20, it has enough", x.breaks(20), -9);
        Check.due("25: wet 21", x.breaks(21), -1);
        Check.due("25: wet -1", x.breaks(-1), -1);
        Check.due("25: extremes", x.breaks(MAX), -1);
        Check.due("25: no village", new WaterThanks().breaks(10), -9);
        // what it let pass was harmful: letting less pass makes more by what harms no more, too
        WaterThanks y = Check.villages(5);
        Check.worths(y, 0, 1, 1, 1, 1, 1);
        y.set(0, 1, 0);
        y.set(0, 2, 9);
        Check.read(y, "let 0 3;");
        Check.due("25: harmed by what it lets pass", y.breaks(10), 0);
    }
}
