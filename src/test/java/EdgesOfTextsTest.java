import java.util.Arrays;
import java.util.List;

/** The edges that the document names of texts, the tape and conditions. */
final class EdgesOfTextsTest {
    /** What may stand in a text, and what may not: words, numbers, other bytes. */
    private static final String[] PARTS = {"let", "if", "or", "and", "not", "wet", "comes", "flow", "0", "5", "6", "10",
        "99", "099", "100", "999", "1000", "0000", "<", "=", ">", "(", ")", ";", "x", "le", "lets", "iff", "an", "ands",
        "nor", "we", "come", "flows", "Let", "?", "-", ".", "!", "&", "\u00e9", "\u0000", "\t"};
    private static final List<String> VALUES =
        List.of("wet", "comes", "flow", "0", "5", "6", "10", "99", "099", "100", "999");

    public static void main(String[] args) {
        tapeOnEitherSide();
        bytesOfAnEight();
        partsBehindParts();
        endsOfText();
        allBytes();
        numbersOnEitherSide();
        bracketsOnEitherSide();
        linesOnEitherSide();
        blanks();
        tapeFullOfText();
        theTreatyStays();
        signs();
        valuesOfConditions();
        joined();
        Check.end();
    }

    private static void tapeOnEitherSide() {
        for (int n = -2; n <= 11; n++) {
            WaterThanks x = new WaterThanks();
            boolean told = n >= 1 && n <= 8;
            Check.due("feed of " + n, x.feed(-1L, n), told ? n : -1);
            Check.due("feed of " + n + ", bytes", x.many(4), told ? n : 0);
        }
        for (int ahead = 190; ahead <= 200; ahead++) {
            for (int n = 1; n <= 8; n++) {
                WaterThanks x = tapeOf(ahead);
                boolean fits = ahead + n <= 200;
                Check.due("feed of " + n + " to " + ahead, x.feed(0L, n), fits ? ahead + n : -2);
                Check.due("feed of " + n + " to " + ahead + ", bytes", x.many(4), fits ? ahead + n : ahead);
                // none of the bytes came: all that stands there is blank
                Check.due("read " + n + " behind " + ahead, x.read(), fits ? -100 - ahead : 0);
                Check.due("the tape is used up", x.many(4), 0);
                Check.due("and takes all again", x.feed(0L, 8), 8);
            }
            Check.due("9 to " + ahead, tapeOf(ahead).feed(0L, 9), -1);
            Check.due("0 to " + ahead, tapeOf(ahead).feed(0L, 0), -1);
        }
    }

    private static WaterThanks tapeOf(int blanks) {
        WaterThanks x = new WaterThanks();
        Check.feed(x, " ".repeat(blanks));
        return x;
    }

    /** The lowest of eight first, and no more than n. */
    private static void bytesOfAnEight() {
        String text = "let 5 7;";
        long eight = 0;
        for (int i = 7; i >= 0; i--) {
            eight = eight << 8 | text.charAt(i);
        }
        for (int n = 1; n <= 8; n++) {
            WaterThanks x = new WaterThanks();
            x.feed(eight, n);
            int due = n == 8 ? 1 : n < 3 ? -100 : -100 - n;
            Check.due("the lowest " + n + " of eight", x.read(), due);
        }
        // a highest byte above 127 is a byte like others
        WaterThanks x = new WaterThanks();
        x.feed(0xff20202020202020L, 8);
        Check.due("the highest byte is fed", x.read(), -107);
        x.feed(0xff20202020202020L, 7);
        Check.due("the highest byte is not fed", x.read(), 0);
    }

    private static void goesOn(String head, List<String> due) {
        for (String part : PARTS) {
            WaterThanks x = new WaterThanks();
            String text = head + " " + part;
            int place = due.contains(part) ? text.length() : head.length() + 1;
            boolean ends = part.equals(";") && due.contains(part);
            Check.due("behind " + head + ": " + part, Check.read(x, text), ends ? 1 : -100 - place);
        }
        // without the blank, where the parts don't run together
        for (String part : new String[] {"<", "=", ">", "(", ")", ";", "?"}) {
            WaterThanks x = new WaterThanks();
            String text = head + part;
            int place = due.contains(part) ? text.length() : head.length();
            boolean ends = part.equals(";") && due.contains(part);
            Check.due("right behind " + head + ": " + part, Check.read(x, text), ends ? 1 : -100 - place);
        }
    }

    private static List<String> and(List<String> some, String... more) {
        List<String> all = new java.util.ArrayList<>(some);
        all.addAll(Arrays.asList(more));
        return all;
    }

    private static void partsBehindParts() {
        List<String> village = List.of("0", "5");
        List<String> amount = List.of("0", "5", "6", "10", "99", "099");
        List<String> one = and(VALUES, "not", "(");
        List<String> sign = List.of("<", "=", ">");
        goesOn("", List.of("let"));
        goesOn("let 0 1;", List.of("let"));
        goesOn("let 0 1 if wet<1;", List.of("let"));
        goesOn("let", village);
        goesOn("let 0 1;let", village);
        goesOn("let 5", amount);
        goesOn("let 5 99", List.of("if", ";"));
        goesOn("let 5 99 if", one);
        goesOn("let 5 99 if not", one);
        goesOn("let 5 99 if not not", one);
        goesOn("let 5 99 if (", one);
        goesOn("let 5 99 if ((", one);
        goesOn("let 5 99 if (((", and(VALUES, "not"));
        goesOn("let 5 99 if (((not", and(VALUES, "not"));
        goesOn("let 5 99 if (((wet=1) and", one);
        for (String value : new String[] {"wet", "comes", "flow", "0", "999"}) {
            goesOn("let 5 99 if " + value, sign);
            goesOn("let 5 99 if 1=1 and ( " + value, sign);
            goesOn("let 5 99 if 1=" + value, List.of("and", "or", ";"));
            goesOn("let 5 99 if not 1=" + value, List.of("and", "or", ";"));
            goesOn("let 5 99 if (1<" + value, List.of("and", "or", ")"));
        }
        for (String s : sign) {
            goesOn("let 5 99 if wet" + s, VALUES);
            goesOn("let 5 99 if not (((1" + s, VALUES);
        }
        goesOn("let 5 99 if (1=1)", List.of("and", "or", ";"));
        goesOn("let 5 99 if ((1=1)", List.of("and", "or", ")"));
        goesOn("let 5 99 if (((1=1)))", List.of("and", "or", ";"));
        goesOn("let 5 99 if 1=1 and", one);
        goesOn("let 5 99 if 1=1 or", one);
        goesOn("let 5 99 if 1=1 or 1=2 and", one);
        goesOn("let 5 99 if 1=1 or 1=2", List.of("and", "or", ";"));
        goesOn("let 5 99 if 1=1 and 1=2", List.of("and", "or", ";"));
        goesOn("let 5 99 if (1=1 or 1=2)and", one);
    }

    /** Each beginning of a text: the fault is its end, or the word that was cut. */
    private static void endsOfText() {
        String text = "let 0 12 if not (wet<10 or comes = 3)and flow>0 ; let 5 99;  let 1 0 if 999=1;";
        int lines = 0;
        int word = -1;
        boolean more = false;
        for (int end = 0; end <= text.length(); end++) {
            String begin = text.substring(0, end);
            String last = word < 0 ? "" : text.substring(word, end);
            boolean cut = !last.isEmpty() && !List.of("let", "if", "not", "wet", "or", "comes", "and", "flow").contains(last);
            int due = cut ? -100 - word : more ? -100 - end : lines;
            Check.due("a text that ends so: " + begin, Check.read(new WaterThanks(), begin), due);
            if (end < text.length()) {
                char next = text.charAt(end);
                word = Character.isLetter(next) ? word < 0 ? end : word : -1;
                lines += next == ';' ? 1 : 0;
                more = next != ';' && (more || next != ' ');
            }
        }
    }

    private static void allBytes() {
        for (int b = 0; b < 256; b++) {
            String one = String.valueOf((char) b);
            boolean digit = b >= '0' && b <= '9';
            Check.due("byte " + b + " alone", Check.read(new WaterThanks(), one), b == ' ' ? 0 : -100);
            Check.due("byte " + b + " behind a line", Check.read(new WaterThanks(), "let 0 1;" + one), b == ' ' ? 1 : -108);
            int due = b == ' ' || digit ? 1 : b == ';' ? -108 : -107;
            Check.due("byte " + b + " behind how many", Check.read(new WaterThanks(), "let 0 1" + one + ";"), due);
            boolean letter = b >= 'a' && b <= 'z';
            // "let5 1 1;" goes on until its second 1, "let6 .." only until the 6
            int dueLet = b == ' ' ? 1 : letter ? -100 : digit && b <= '5' ? -107 : -103;
            Check.due("byte " + b + " behind let", Check.read(new WaterThanks(), "let" + one + (digit ? " 1 1;" : "0 1;")),
                dueLet);
            boolean sign = b == '<' || b == '=' || b == '>';
            int dueSign = sign ? 1 : digit ? -114 : b == ' ' ? -113 : -112;
            Check.due("byte " + b + " between values", Check.read(new WaterThanks(), "let 0 1 if 1" + one + "2;"), dueSign);
        }
    }

    private static void numbersOnEitherSide() {
        String[] villages = {"0", "1", "5", "6", "9", "00", "05", "06", "10", "005", "006", "0005", "0000", "99", "999"};
        for (String village : villages) {
            boolean told = village.length() <= 3 && Integer.parseInt(village) <= 5;
            Check.due("village " + village, Check.read(new WaterThanks(), "let " + village + " 7;"), told ? 1 : -104);
        }
        String[] amounts = {"0", "9", "10", "98", "99", "100", "101", "199", "099", "000", "0099", "0000", "999", "1000",
            "4294967296", "4294967297", "18446744073709551617", "99999999999999999999"};
        for (String amount : amounts) {
            boolean told = amount.length() <= 3 && Integer.parseInt(amount) <= 99;
            WaterThanks x = Check.villages(12, 12, 12, 12, 12);
            Check.due("how many " + amount, Check.read(x, "let 4 " + amount + ";"), told ? 1 : -106);
            if (told) {
                Check.due("lets " + amount + " of 120", x.treaty(20, 4, 1), Integer.parseInt(amount));
            }
        }
        String[] values = {"0", "9", "99", "998", "999", "1000", "1001", "099", "0999", "00", "000", "0000", "4294967296"};
        for (String value : values) {
            boolean told = value.length() <= 3;
            Check.due("value " + value, Check.read(new WaterThanks(), "let 0 1 if " + value + "=1;"), told ? 1 : -111);
            Check.due("right value " + value, Check.read(new WaterThanks(), "let 0 1 if 1>" + value + ";"), told ? 1 : -113);
        }
    }

    private static void bracketsOnEitherSide() {
        for (int open = 0; open <= 5; open++) {
            String text = "let 0 1 if " + "(".repeat(open) + "1=1" + ")".repeat(open) + ";";
            Check.due(open + " open", Check.read(new WaterThanks(), text), open <= 3 ? 1 : -114);
            String nots = "let 0 1 if " + "not(".repeat(open) + "1=1" + ")".repeat(open) + ";";
            Check.due(open + " open behind nots", Check.read(new WaterThanks(), nots), open <= 3 ? 1 : -111 - 3 * 4 - 3);
            String less = "let 0 1 if " + "(".repeat(open) + "1=1" + ")".repeat(Math.max(0, open - 1)) + ";";
            int due = open == 0 ? 1 : open > 3 ? -114 : -100 - (less.length() - 1);
            Check.due(open + " open, one less closed", Check.read(new WaterThanks(), less), due);
            String more = "let 0 1 if " + "(".repeat(open) + "1=1" + ")".repeat(open + 1) + ";";
            Check.due(open + " open, one more closed", Check.read(new WaterThanks(), more),
                open > 3 ? -114 : -100 - (more.length() - 2));
        }
        // within one another: those that are closed again don't count
        String three = "(((1=1)))";
        Check.due("three, and three again",
            Check.read(new WaterThanks(), "let 0 1 if " + three + "and" + three + "or" + three + ";"), 1);
        Check.due("two within one, twice",
            Check.read(new WaterThanks(), "let 0 1 if ( ((1=1)) or ((1=2)) and ( ( 1 = 1 ) ) );"), 1);
        Check.due("the fourth behind a closed one",
            Check.read(new WaterThanks(), "let 0 1 if (((1=1)or((1=1))));"), -100 - 21);
        Check.due("three in each line", Check.read(new WaterThanks(), "let 0 1 if " + three + ";let 0 1 if " + three + ";"), 2);
        Check.due("199 open", Check.read(new WaterThanks(), "let 0 1 if " + "(".repeat(189)), -114);
    }

    private static void linesOnEitherSide() {
        for (int lines = 0; lines <= 11; lines++) {
            WaterThanks x = new WaterThanks();
            int due = lines <= 8 ? lines : -100 - 8 * 9;
            Check.due(lines + " lines", Check.read(x, "let 3 4; ".repeat(lines)), due);
            Check.due(lines + " lines, as many are there", x.many(2), lines <= 8 ? lines : 0);
        }
        String eight = "let 0 1;".repeat(8);
        for (String ninth : new String[] {"let", "let 0 1;", "if", "x", "7", ";", "?", "(", "let 9"}) {
            Check.due("behind eight: " + ninth, Check.read(new WaterThanks(), eight + ninth), -164);
            Check.due("behind eight and blanks: " + ninth, Check.read(new WaterThanks(), eight + "   " + ninth), -167);
        }
        Check.due("eight and blanks", Check.read(new WaterThanks(), eight + "    "), 8);
        // the ninth's own faults come later than its word; a fault in the eighth comes first
        Check.due("a fault in the eighth", Check.read(new WaterThanks(), "let 0 1;".repeat(7) + "let 6 1;let 0 1;"), -160);
    }

    private static void blanks() {
        Check.due("no byte", new WaterThanks().read(), 0);
        for (int n = 1; n <= 200; n += 199) {
            Check.due(n + " blanks", Check.read(new WaterThanks(), " ".repeat(n)), 0);
        }
        String[] parts = {"let", "0", "1", "if", "not", "(", "wet", "<", "3", ")", "and", "comes", "=", "flow", ";"};
        for (int n = 1; n <= 9; n++) {
            String blanks = " ".repeat(n);
            Check.due(n + " blanks between", Check.read(new WaterThanks(), String.join(blanks, parts)), 1);
            Check.due(n + " blanks around", Check.read(new WaterThanks(), blanks + String.join(" ", parts) + blanks), 1);
        }
        Check.due("no more than must be", Check.read(new WaterThanks(), "let 0 1 if not(wet<3)and comes=flow;"), 1);
        Check.due("words that run together", Check.read(new WaterThanks(), "let 0 1 if notwet<3;"), -111);
        Check.due("and so", Check.read(new WaterThanks(), "let 0 1 if wet<3 andwet<3;"), -117);
        Check.due("numbers that run together", Check.read(new WaterThanks(), "let 01;"), -106);
        Check.due("a blank within a word", Check.read(new WaterThanks(), "le t 0 1;"), -100);
        Check.due("a blank within a number", Check.read(new WaterThanks(), "let 0 1 2;"), -108);
    }

    /** 200 bytes with no room for one more. */
    private static void tapeFullOfText() {
        String line = "let 0 9 if wet=10 and comes<99; ";
        String text = line.repeat(6);
        WaterThanks x = Check.villages(12);
        Check.due("200 bytes", (text + "let 0 5;").length(), 200);
        Check.due("200 bytes of text", Check.read(x, text + "let 0 5;"), 7);
        Check.due("its last line", x.treaty(10, 0, 1), 5);
        Check.due("200 bytes, the last one missing", Check.read(x, text + "let 0 55"), -300);
        Check.due("a fault at the last of 200", Check.read(x, text + "let 0 5?"), -299);
        Check.due("200 that are no word", Check.read(x, "l".repeat(200)), -100);
        Check.due("200 digits", Check.read(x, "0".repeat(200)), -100);
        Check.due("as it was", x.treaty(10, 0, 1), 5);
        StringBuilder ones = new StringBuilder("let 0 5 if 1=1");
        while (ones.length() < 193) {
            ones.append("and 1=1");
        }
        while (ones.length() < 199) {
            ones.append(' ');
        }
        Check.due("as many as there is room for", Check.read(x, ones + ";"), 1);
        Check.due("all hold", x.treaty(10, 0, 1), 5);
    }

    private static void theTreatyStays() {
        WaterThanks x = Check.villages(12);
        Check.read(x, "let 0 3 if wet > 4; let 0 7 if wet > 8;");
        for (String fault : new String[] {"x", "let 0 1", "let 0 1;let 0 1 if", "let 6 1;", "let 0 1;".repeat(9)}) {
            Check.due("a fault: " + fault, Check.read(x, fault) <= -100);
            Check.due("lines stay", x.many(2), 2);
            Check.due("no line holds, as before", x.treaty(4, 0, 1), 0);
            Check.due("the first holds, as before", x.treaty(5, 0, 1), 3);
            Check.due("both hold, as before", x.treaty(9, 0, 1), 7);
        }
        Check.due("another treaty", Check.read(x, "let 0 2;"), 1);
        Check.due("nothing of the one before", x.treaty(9, 0, 1), 2);
        Check.due("blanks are a treaty of no lines", Check.read(x, "  "), 0);
        Check.due("which lets nothing", x.treaty(9, 0, 1), 0);
    }

    private static void holds(WaterThanks x, int wet, String condition, boolean due) {
        Check.due("condition " + condition, Check.read(x, "let 0 1 if " + condition + ";"), 1);
        Check.due(condition + " in wet " + wet, x.treaty(wet, 0, 1), due ? 1 : 0);
    }

    private static void signs() {
        int[] numbers = {0, 1, 2, 9, 10, 11, 99, 100, 998, 999};
        for (int left : numbers) {
            WaterThanks x = Check.villages(10);
            for (int right : numbers) {
                holds(x, 10, left + "<" + right, left < right);
                holds(x, 10, left + "=" + right, left == right);
                holds(x, 10, left + ">" + right, left > right);
            }
        }
    }

    private static void valuesOfConditions() {
        for (int wet = 0; wet <= 20; wet++) {
            WaterThanks x = Check.villages(10, 7);
            Check.read(x, "let 0 99;let 1 2 if wet = " + wet + "and comes = " + (wet + 7 * wet / 10) + " and flow = 7;");
            int comes = wet + 7 * wet / 10;
            Check.due("wet of the year, what comes, flow: " + wet, x.treaty(wet, 1, 1), Math.min(2, comes));
            for (int other = 0; other <= 20; other++) {
                if (other != wet) {
                    Check.due("not in wet " + other, x.treaty(other, 1, 1), 0);
                }
            }
        }
        WaterThanks x = Check.villages(12, 12, 12, 12, 12, 12);
        Check.read(x, "let 5 1 if comes = 144; let 5 2 if comes > 144; let 5 3 if comes < 144;");
        Check.due("all of the wettest year come", x.treaty(20, 5, 1), 1);
        Check.due("72 come", x.treaty(10, 5, 1), 3);
        x.set(5, 0, 0);
        Check.read(x, "let 5 1 if flow = 0 and comes > 0; let 0 1 if flow < 12 or flow > 12;");
        Check.due("its flow, not what comes", x.treaty(20, 5, 1), 1);
        Check.due("flow is not times wet", x.treaty(20, 0, 1), 0);
    }

    /** All that two and three ones may be, joined in each way. */
    private static void joined() {
        String[] ones = {"1=2", "1=1"};
        WaterThanks x = Check.villages(10);
        for (int bits = 0; bits < 8; bits++) {
            boolean a = (bits & 1) != 0;
            boolean b = (bits & 2) != 0;
            boolean c = (bits & 4) != 0;
            String one = ones[bits & 1];
            String two = ones[bits >> 1 & 1];
            String three = ones[bits >> 2];
            holds(x, 10, one + " or " + two + " and " + three, a || b && c);
            holds(x, 10, one + " and " + two + " or " + three, a && b || c);
            holds(x, 10, one + " and (" + two + " or " + three + ")", a && (b || c));
            holds(x, 10, "(" + one + " or " + two + ") and " + three, (a || b) && c);
            holds(x, 10, "not " + one + " or " + two + " and not " + three, !a || b && !c);
            holds(x, 10, "not " + one + " and " + two + " or " + three, !a && b || c);
            holds(x, 10, "not (" + one + " and not " + two + ") and not not " + three, !(a && !b) && c);
            x = Check.villages(10);
        }
    }
}
