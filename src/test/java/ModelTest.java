import java.util.ArrayList;
import java.util.List;

/** Runs of 512 calls, the same ones every time, held against the model's answers. */
final class ModelTest {
    private static final int RUNS = 400;
    private static final int CALLS = 512;
    private static final int LOW_BAD = Model.LOW_BAD;

    private final WaterThanks x = new WaterThanks();
    private final Model m = new Model();
    private final int run;
    private long seed;
    private final List<String> calls = new ArrayList<>();
    private boolean failed = false;
    private String text = "";

    private ModelTest(int run) {
        this.run = run;
        this.seed = 0x9E3779B97F4A7C15L * (run + 1);
    }

    public static void main(String[] args) {
        int runs = args.length > 0 ? Integer.parseInt(args[0]) : RUNS;
        int wrong = 0;
        for (int run = 0; run < runs; run++) {
            if (!new ModelTest(run).play()) {
                wrong++;
            }
        }
        System.out.println(runs + " runs, " + wrong + " of them wrong");
        System.exit(wrong == 0 ? 0 : 1);
    }

    private boolean play() {
        for (int i = 0; i < CALLS && !failed; i++) {
            call();
        }
        return !failed;
    }

    // ---- numbers of no chance: always the same ones

    private int up(int bound) {
        seed = seed * 6364136223846793005L + 1442695040888963407L;
        return (int) ((seed >>> 33) % bound);
    }

    /** Mostly least to most, at times a little outside, seldom any int. */
    private int number(int least, int most) {
        int sort = up(40);
        if (sort == 0) {
            int[] wild = {Integer.MIN_VALUE, Integer.MAX_VALUE, -1, 0, 1 << up(32), -(1 << up(32))};
            return wild[up(wild.length)];
        }
        if (sort < 4) {
            return up(2) == 0 ? least - 1 - up(2) : most + 1 + up(2);
        }
        return least + up(most - least + 1);
    }

    private int village() {
        return up(12) == 0 ? number(0, 5) : number(0, Math.max(0, m.land.villages.size() - 1));
    }

    private boolean isVillage(int v) {
        return v >= 0 && v < m.land.villages.size();
    }

    private static boolean in(int n, int least, int most) {
        return n >= least && n <= most;
    }

    private void due(String call, int got, int want) {
        calls.add(call + " = " + got);
        if (got != want) {
            failed = true;
            int from = Math.max(0, calls.size() - 60);
            for (String c : calls.subList(from, calls.size())) {
                System.out.println("  " + c);
            }
            System.out.println("run " + run + ", call " + calls.size() + ": due is " + want);
        }
    }

    private void call() {
        if (m.land.villages.isEmpty() && up(3) > 0) {
            villages(0);
            return;
        }
        switch (up(9)) {
            case 0, 1 -> villages(up(5));
            case 2 -> water(up(9));
            case 3 -> laws(up(3));
            case 4 -> years(up(5));
            case 5 -> treaties(up(7));
            case 6 -> rows(up(4));
            case 7 -> host(up(7));
            default -> things(up(9));
        }
    }

    // ---- villages, uses

    private void villages(int which) {
        int v = village();
        int what = number(0, 5);
        switch (which) {
            case 0 -> {
                int flow = number(0, 12);
                int due = !in(flow, 0, 12) ? -1 : m.land.villages.size() == 6 ? -2 : m.land.villages.size();
                if (due >= 0) {
                    m.land.villages.add(new Model.Village());
                    m.land.villages.get(due).facts[0] = flow;
                }
                due("village(" + flow + ")", x.village(flow), due);
            }
            case 1 -> {
                int due = isVillage(v) && in(what, 0, 5) ? m.land.villages.get(v).facts[what] : -1;
                due("villageOf(" + v + ", " + what + ")", x.villageOf(v, what), due);
            }
            case 2, 3 -> {
                int[] most = {12, 99, 9, 20, 99, 9};
                int most1 = in(what, 0, 5) ? most[what] : 9;
                int n = number(0, what == 1 && up(2) == 0 ? 12 : most1);
                int due = -1;
                if (isVillage(v) && in(what, 0, 5) && in(n, what == 5 ? 1 : 0, most1)) {
                    due = m.land.villages.get(v).facts[what];
                    m.land.villages.get(v).facts[what] = n;
                }
                due("set(" + v + ", " + what + ", " + n + ")", x.set(v, what, n), due);
            }
            default -> worths(v);
        }
    }

    private void worths(int v) {
        int sheet = number(0, 3);
        if (up(4) > 0) {
            sheet = 3;
            int size = up(10) == 0 ? 11 + up(3) : 12;
            sheetBecomes(3, up(12) == 0 ? 1 : 0, size);
            int worth = up(100);
            for (int i = 0; i < size; i++) {
                put(3, i, up(60) == 0 ? number(0, 99) : worth);
                worth = up(4) == 0 ? worth : Math.max(0, worth - up(1 + up(20)));
            }
        }
        int due = 1;
        if (!isVillage(v) || !in(sheet, 0, 3)) {
            due = -1;
        } else if (m.sheets[sheet] == null) {
            due = -11;
        } else if (m.sheets[sheet].sort() != 0) {
            due = -13;
        } else {
            long[] items = m.sheets[sheet].items();
            boolean told = items.length == 12;
            for (int i = 0; told && i < 12; i++) {
                told = items[i] >= 0 && items[i] <= (i == 0 ? 99 : items[i - 1]);
            }
            due = told ? 1 : -4;
            for (int i = 0; told && i < 12; i++) {
                m.land.villages.get(v).worths[i] = (int) items[i];
            }
        }
        due("worths(" + v + ", " + sheet + ")", x.worths(v, sheet), due);
    }

    private void water(int which) {
        int v = village();
        int what = number(0, 2);
        boolean is = isVillage(v);
        switch (which) {
            case 0 -> {
                int n = number(0, 12);
                int due = is && in(n, 0, 12) ? m.land.villages.get(v).makes(n, 0) : -1;
                due("worth(" + v + ", " + n + ")", x.worth(v, n), due);
            }
            case 1 -> {
                int wet = number(0, 20);
                due("best(" + wet + ")", x.best(wet), in(wet, 0, 20) ? m.bestWay(wet).made() : LOW_BAD);
            }
            case 2, 3 -> due("use(" + v + ", " + what + ")", x.use(v, what),
                is && in(what, 0, 2) ? m.best()[v][what] : LOW_BAD);
            case 4 -> {
                int due = LOW_BAD;
                if (is) {
                    int[] more = m.inflow(10);
                    more[v]++;
                    due = m.bestWay(more, 0, more.length - 1).made() - m.bestWay(10).made();
                }
                due("price(" + v + ")", x.price(v), due);
            }
            case 5 -> {
                int b = village();
                int due = is && isVillage(b) && v <= b ? m.runOf(v, b) : LOW_BAD;
                due("run(" + v + ", " + b + ")", x.run(v, b), due);
            }
            case 6 -> due("most(" + v + ")", x.most(v), is ? m.mostOf(v) : -1);
            case 7 -> {
                int due = is || v == -1 ? v == -1 ? -m.cleanest().made() : m.cleanest().chosen().get(v) : -1;
                due("cleaning(" + v + ")", x.cleaning(v), due);
            }
            default -> due("cleaning(-1)", x.cleaning(-1), -m.cleanest().made());
        }
    }

    // ---- sharings

    private void laws(int which) {
        int v = village();
        int sharing = number(0, 3);
        int what = number(0, 1);
        if (which == 0) {
            int due = LOW_BAD;
            if (in(sharing, 0, 3) && isVillage(v) && in(what, 0, 1)) {
                int share = m.shares(sharing)[v];
                due = what == 0 ? share : sharing == 0 ? 0 : share - m.best()[v][2];
            }
            due("share(" + sharing + ", " + v + ", " + what + ")", x.share(sharing, v, what), due);
        } else if (which == 1) {
            due("broken(" + sharing + ")", x.broken(sharing),
                in(sharing, 0, 3) ? m.breakOf(m.shares(sharing)) : -1);
        } else {
            lawful();
        }
    }

    private void lawful() {
        int sheet = number(0, 3);
        int count = m.land.villages.size();
        if (up(4) > 0) {
            sheet = up(4);
            int size = up(10) == 0 ? up(8) : count;
            sheetBecomes(sheet, up(12) == 0 ? 3 : 2, size);
            int from = up(4);
            int left = 0;
            for (int i = 0; i < size; i++) {
                int thanks = i < count ? m.shares(from)[i] - m.best()[i][2] : 0;
                if (up(4) == 0) {
                    thanks += up(5) - 2;
                }
                thanks = i == size - 1 && up(6) > 0 ? -left : thanks;
                left += thanks;
                put(sheet, i, up(80) == 0 ? number(-9999, 9999) : thanks);
            }
        }
        int due = 0;
        if (!in(sheet, 0, 3)) {
            due = -1;
        } else if (m.sheets[sheet] == null) {
            due = -11;
        } else if (m.sheets[sheet].sort() != 2) {
            due = -13;
        } else {
            long[] items = m.sheets[sheet].items();
            boolean told = items.length == count;
            int sum = 0;
            int[] shares = new int[count];
            for (int i = 0; told && i < count; i++) {
                told = items[i] >= -9999 && items[i] <= 9999;
                shares[i] = (int) items[i] + m.best()[i][2];
                sum += (int) items[i];
            }
            due = !told ? -4 : sum != 0 ? 300 : m.breakOf(shares);
        }
        due("lawful(" + sheet + ")", x.lawful(sheet), due);
    }

    // ---- years, the dam

    private void years(int which) {
        int year = up(3) == 0 ? number(-1, 5) : number(-1, m.land.years.size() - 1 + up(2));
        int wet = number(0, 20);
        switch (which) {
            case 0 -> {
                int due = !in(wet, 0, 20) ? -1 : m.land.years.size() == 6 ? -2 : m.land.years.size();
                if (due >= 0) {
                    m.land.years.add(wet);
                }
                due("year(" + wet + ")", x.year(wet), due);
            }
            case 1 -> {
                int due = -1;
                if (in(year, 0, m.land.years.size() - 1) && in(wet, 0, 20)) {
                    due = m.land.years.set(year, wet);
                }
                due("yearOf(" + year + ", " + wet + ")", x.yearOf(year, wet), due);
            }
            case 2 -> {
                int v = up(6) == 0 ? -1 : village();
                int holds = number(0, 4);
                boolean can = (v == -1 || isVillage(v)) && in(holds, 0, 4);
                if (can) {
                    m.land.damAt = v;
                    m.land.holds = holds;
                }
                due("dam(" + v + ", " + holds + ")", x.dam(v, holds), can ? 1 : -1);
            }
            default -> {
                int due = LOW_BAD;
                if (in(year, -1, m.land.years.size() - 1)) {
                    Model.Way best = m.keptBest();
                    due = year == -1 ? best.made() : m.land.damAt < 0 ? 0 : best.chosen().get(year);
                }
                due("kept(" + year + ")", x.kept(year), due);
            }
        }
    }

    // ---- treaties

    private void treaties(int which) {
        int wet = number(0, 20);
        switch (which) {
            case 0 -> {
                tell();
                due("read() of " + text, x.read(), m.readTape());
            }
            case 1 -> feedBytes(number(1, 8), ((long) up(1 << 30) << 33) ^ ((long) up(1 << 30) << 3));
            case 2, 3 -> {
                int v = village();
                int what = number(0, 3);
                int due = LOW_BAD;
                if (in(wet, 0, 20) && isVillage(v) && in(what, 0, 3)) {
                    due = m.course(wet, -1)[v][what];
                }
                due("treaty(" + wet + ", " + v + ", " + what + ")", x.treaty(wet, v, what), due);
            }
            case 4 -> due("lost()", x.lost(), m.lostBy(-1));
            case 5 -> {
                int what = number(0, 1);
                int least = m.lostBy(0);
                int leastAt = 0;
                for (int let = 1; let <= 24; let++) {
                    int lost = m.lostBy(let);
                    leastAt = lost < least ? let : leastAt;
                    least = Math.min(lost, least);
                }
                due("plain(" + what + ")", x.plain(what), what == 0 ? least : what == 1 ? leastAt : -1);
            }
            default -> {
                int due = in(wet, 0, 20) ? -9 : -1;
                for (int v = 0; due == -9 && v < m.land.villages.size(); v++) {
                    int[] told = m.course(wet, -1)[v];
                    Model.Village village = m.land.villages.get(v);
                    int use = village.wanted(told[0]);
                    due = village.makes(use, told[0] - use) > told[3] ? v : due;
                }
                due("breaks(" + wet + ")", x.breaks(wet), due);
            }
        }
    }

    private void feedBytes(int n, long eight) {
        int due = !in(n, 1, 8) ? -1 : m.tape.size() + n > 200 ? -2 : m.tape.size() + n;
        for (int i = 0; due > 0 && i < n; i++) {
            m.tape.add((int) (eight >>> (8 * i)) & 255);
        }
        due("feed(" + eight + ", " + n + ")", x.feed(eight, n), due);
    }

    /** Feeds a text, mostly one as told; after such bytes as are there already. */
    private void tell() {
        if (!m.tape.isEmpty() && up(4) > 0) {
            due("read() of some bytes", x.read(), m.readTape());
        }
        StringBuilder b = new StringBuilder();
        int lines = up(10) == 0 ? 7 + up(4) : up(4);
        for (int i = 0; i < lines; i++) {
            b.append(blanks(1)).append("let").append(blanks(3)).append(' ').append(up(30) == 0 ? up(20) : up(6));
            b.append(' ').append(up(30) == 0 ? up(200) : up(2) == 0 ? up(100) : up(10));
            if (up(3) > 0 && lines < 6) {
                b.append(" if ");
                condition(b, 0);
            }
            b.append(blanks(2)).append(';');
        }
        for (int i = up(6) - 2; i > 0 && b.length() > 0; i--) {
            String signs = "let if or and not wet comes flow();<=> 0123456789xA~\u00e9";
            int at = up(b.length());
            switch (up(3)) {
                case 0 -> b.deleteCharAt(at);
                case 1 -> b.setCharAt(at, signs.charAt(up(signs.length())));
                default -> b.insert(at, signs.charAt(up(signs.length())));
            }
        }
        b.setLength(Math.min(200, b.length()));
        text = b.toString();
        for (int from = 0; from < text.length(); from += 8) {
            long eight = up(2) == 0 ? 0 : -1;
            int n = Math.min(8, text.length() - from);
            for (int i = n - 1; i >= 0; i--) {
                eight = eight << 8 | text.charAt(from + i);
            }
            feedBytes(n, eight);
        }
    }

    private String blanks(int most) {
        return " ".repeat(up(most + 1));
    }

    private void condition(StringBuilder b, int depth) {
        int ones = up(3) == 0 ? 1 + up(4) : 1;
        for (int i = 0; i < ones; i++) {
            if (i > 0) {
                b.append(up(2) == 0 ? " and " : " or ");
            }
            while (up(5) == 0) {
                b.append("not ");
            }
            if (up(4) == 0 && depth < (up(20) == 0 ? 5 : 3)) {
                b.append(blanks(1)).append('(');
                condition(b, depth + 1);
                b.append(blanks(1)).append(')');
            } else {
                b.append(value()).append(blanks(1)).append("<=>".charAt(up(3))).append(blanks(1)).append(value());
            }
        }
    }

    private String value() {
        return switch (up(5)) {
            case 0 -> "wet";
            case 1 -> "comes";
            case 2 -> "flow";
            case 3 -> "" + up(up(20) == 0 ? 2000 : 21);
            default -> "0" + up(30);
        };
    }

    // ---- rows

    private void rows(int which) {
        int i = up(6) == 0 ? number(0, 6) : number(0, Math.max(0, m.rows.size() - 1));
        int what = number(0, 2);
        boolean is = in(i, 0, m.rows.size() - 1) && in(what, 0, 2);
        switch (which) {
            case 0 -> {
                m.rows.clear();
                int[][] best = m.best();
                for (int v = 0; v < best.length; v++) {
                    m.rows.add(new int[] {v, best[v][0], best[v][1]});
                }
                due("prove()", x.prove(), best.length);
            }
            case 1 -> due("row(" + i + ", " + what + ")", x.row(i, what), is ? m.rows.get(i)[what] : -9);
            case 2 -> {
                int n = is && up(3) > 0 ? m.rows.get(i)[what] + up(3) - 1 : number(0, 20);
                int due = is ? m.rows.get(i)[what] : -9;
                if (is) {
                    m.rows.get(i)[what] = n;
                }
                due("alterRow(" + i + ", " + what + ", " + n + ")", x.alterRow(i, what, n), due);
                if (is && what == 1 && up(2) == 0) {
                    m.rows.get(i)[2] += due - n;
                    x.alterRow(i, 2, m.rows.get(i)[2]);
                    calls.add("alterRow(" + i + ", 2, " + m.rows.get(i)[2] + ")");
                }
            }
            default -> due("judge()", x.judge(), judged());
        }
    }

    private int judged() {
        int made = 0;
        long above = 0;
        for (int i = 0; i < m.rows.size(); i++) {
            int[] row = m.rows.get(i);
            if (!isVillage(i) || row[0] != i) {
                return i + 1;
            }
            long come = above + m.land.villages.get(i).facts[0];
            if (!in(row[1], 0, 12) || row[1] > come || row[2] != come - row[1]) {
                return i + 1;
            }
            made += m.land.villages.get(i).makes(row[1], row[2]);
            above = row[2];
        }
        return m.rows.size() != m.land.villages.size() ? 21 : made < m.bestWay(10).made() ? 22 : 0;
    }

    // ---- the host

    private void sheetBecomes(int sheet, int sort, int n) {
        int due = 1;
        if (!in(sheet, 0, 3) || !in(sort, -1, 3) || sort != -1 && n > 40) {
            due = -1;
        } else if (sort == -1) {
            m.sheets[sheet] = null;
        } else if (n < 0) {
            due = -14;
        } else {
            m.sheets[sheet] = new Model.Row(sort, new long[n]);
        }
        due("sheet(" + sheet + ", " + sort + ", " + n + ")", x.sheet(sheet, sort, n), due);
    }

    private void put(int sheet, int i, int v) {
        int due = 1;
        if (!in(sheet, 0, 3)) {
            due = -1;
        } else if (m.sheets[sheet] == null) {
            due = -11;
        } else if (!in(i, 0, m.sheets[sheet].items().length - 1)) {
            due = -12;
        } else {
            int bits = 8 << m.sheets[sheet].sort();
            m.sheets[sheet].items()[i] = (long) v << (64 - bits) >> (64 - bits);
        }
        due("put(" + sheet + ", " + i + ", " + v + ")", x.put(sheet, i, v), due);
    }

    private void host(int which) {
        int sheet = number(0, 3);
        int i = number(0, up(2) == 0 ? 5 : 39);
        switch (which) {
            case 0 -> sheetBecomes(sheet, number(-1, 3), up(3) > 0 ? up(8) : number(0, 40));
            case 1, 2 -> put(sheet, i, up(2) == 0 ? number(0, 12) : number(-70000, 70000));
            case 3 -> {
                int sort = number(0, 3);
                int due = 0;
                if (!in(sheet, 0, 3) || !in(sort, 0, 3)) {
                    due = -1;
                } else if (m.sheets[sheet] == null) {
                    due = -11;
                } else if (m.sheets[sheet].sort() != sort) {
                    due = -13;
                } else {
                    long[] items = m.sheets[sheet].items();
                    due = in(i, 0, items.length - 1) ? (int) items[i] : -12;
                }
                due("item(" + sheet + ", " + sort + ", " + i + ")", x.item(sheet, sort, i), due);
            }
            default -> flows(sheet, i);
        }
    }

    private void flows(int anySheet, int anyPlace) {
        int v = village();
        int sheet = anySheet;
        int i = anyPlace;
        int n = number(0, 6);
        if (up(3) > 0) {
            sheet = up(4);
            int size = 1 + up(8);
            sheetBecomes(sheet, up(10) == 0 ? 2 : 1, size);
            for (int k = 0; k < size; k++) {
                put(sheet, k, number(0, 12));
            }
            i = up(10) == 0 ? number(0, 5) : up(size);
        }
        int due = 0;
        if (!isVillage(v) || !in(sheet, 0, 3) || !in(n, 0, 6)) {
            due = -1;
        } else if (m.sheets[sheet] == null) {
            due = -11;
        } else if (m.sheets[sheet].sort() != 1) {
            due = -13;
        } else {
            long[] items = m.sheets[sheet].items();
            for (int k = 0; k < n && due != -12; k++) {
                long at = (long) i + k;
                if (at < 0 || at >= items.length) {
                    due = -12;
                } else if (isVillage(v + k) && items[(int) at] >= 0 && items[(int) at] <= 12) {
                    m.land.villages.get(v + k).facts[0] = (int) items[(int) at];
                    due++;
                }
            }
        }
        due("flows(" + v + ", " + sheet + ", " + i + ", " + n + ")", x.flows(v, sheet, i, n), due);
    }

    private void things(int which) {
        int shelf = number(0, 3);
        switch (which) {
            case 0, 1 -> shelve(shelf);
            case 2 -> {
                int as = up(2) == 0 ? number(0, 6) : number(10, 13);
                due("taken(" + shelf + ", " + as + ")", x.taken(shelf, as), m.taken(shelf, as));
            }
            case 3, 4, 5 -> {
                int act = number(0, 3);
                int n = up(2) == 0 ? number(-9, 99) : number(Integer.MIN_VALUE / 2, Integer.MAX_VALUE / 2 - 9);
                due("act(" + shelf + ", " + act + ", " + n + ")", x.act(shelf, act, n), m.act(shelf, act, n));
                for (int i = 0; i <= m.trace.size(); i++) {
                    due("trace(" + i + ")", x.trace(i), i < m.trace.size() ? m.trace.get(i) : -3);
                }
            }
            case 6 -> {
                int what = number(0, 7);
                int[] due = {m.land.villages.size(), m.land.years.size(), m.land.lines.size(), m.rows.size(),
                    m.tape.size(), m.trace.size(), m.land.holds, m.land.damAt};
                due("many(" + what + ")", x.many(what), in(what, 0, 7) ? due[what] : -1);
            }
            default -> keepOrAgain();
        }
    }

    private void shelve(int shelf) {
        int what = number(0, 8);
        int n = what == 7 ? number(0, 3) : what == 8 ? number(0, 9) : village();
        int due = 1;
        if (!in(shelf, 0, 3) || !in(what, 0, 8) || what < 7 && !isVillage(n) || what == 7 && !in(n, 0, 3)) {
            due = -1;
        } else if (what == 7) {
            m.shelves[shelf] = m.sheets[n];
        } else {
            m.shelves[shelf] = what == 8 ? null : new int[] {what, n};
        }
        due("shelf(" + shelf + ", " + what + ", " + n + ")", x.shelf(shelf, what, n), due);
    }

    private void keepOrAgain() {
        int which = up(6);
        if (which == 0) {
            m.saved = m.land.copy();
            due("keep()", x.keep(), 1);
        } else if (which == 1) {
            int due = m.saved == null ? -3 : 1;
            if (due == 1) {
                m.land = m.saved.copy();
            }
            due("again()", x.again(), due);
        }
    }
}
