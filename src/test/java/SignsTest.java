/**
 * Promise 4, "the first byte at which no such TEXT can go on": each byte at each kind of place in a text, and blanks
 * "between all signs of both, not within numbers".
 */
public final class SignsTest {
    private static final Checks CHECKS = new Checks("SignsTest");
    private static final String DIGITS = "0123456789";
    private static final String LETTERS = "whpnrc";
    /** What an ATOM begins with, and a UNIT. */
    private static final String ATOM = DIGITS + LETTERS + "[ ";
    private static final String UNIT = ATOM + "!(";
    private static final String JOIN = "+-*/ ";
    /** Kind, letter, the least, the most. */
    private static final String[] ITEMS = {"s w 3 9", "s o 0 8", "s g 1 60", "s r 1 20", "s y 0 9", "b r 1 20",
        "b c 0 8", "b k 1 9", "b d 0 1", "i r 0 19", "m w 1 9", "m l 0 2", "m h 0 9", "m s 0 9"};

    public static void main(String[] args) {
        clauses();
        items();
        numbers();
        letterOfAnotherClause();
        laws();
        conditions();
        depths();
        blanks();
        fullTape();
        CHECKS.finish();
    }

    /** Behind the text, which is fine so far, these signs and no others can stand. */
    private static void goesOn(int sort, String text, String signs) {
        for (int sign = 1; sign < 256; sign++) {
            int fault = Checks.fault(sort, text + (char) sign);
            boolean on = fault == -1 || fault == text.length() + 1;
            boolean due = signs.indexOf(sign) >= 0;
            CHECKS.due("fault(" + sort + ") of [" + text + "] and " + sign + " is " + fault, on, due);
            if (!due) {
                CHECKS.due("it is at that sign, [" + text + "] " + sign, fault, text.length());
            }
        }
    }

    private static void clauses() {
        goesOn(0, "", "sbim ");
        goesOn(0, "  ", "sbim ");
        goesOn(0, "s", "wogry; ");
        goesOn(0, "b", "rckd; ");
        goesOn(0, "i", "r; ");
        goesOn(0, "m", "wlhs; ");
        goesOn(0, "m ", "wlhs; ");
        goesOn(0, "m;", "sbim ");
        goesOn(0, "m ; ", "sbim ");
        goesOn(0, "s;", "bim ");
        goesOn(0, "m;s;b;", "bim ");
        goesOn(0, "b;br2;br3;br4;br5;", "sbim ");
        goesOn(0, "b;br2;br3;br4;br5;br6;", "sim ");
        goesOn(0, "i;ir1;ir2;", "sbim ");
        goesOn(0, "i;ir1;ir2;ir3;", "sbm ");
        goesOn(0, "m;m;m;m;m;", "sbim ");
        goesOn(0, "m;m;m;m;m;m;", "sbi ");
        goesOn(0, "s;m;m;m;m;m;m;i;ir1;ir2;ir3;", "b ");
    }

    private static void items() {
        goesOn(0, "sw5", "ogry; ");
        goesOn(0, "sw5o2", "gry; ");
        goesOn(0, "sw5o2g60", "ry; ");
        goesOn(0, "sw5o2g60r20", "y; ");
        goesOn(0, "sw5o2g60r20y9", "; ");
        goesOn(0, "sy9r20g60o2", "w; ");
        goesOn(0, "br20", "ckd; ");
        goesOn(0, "br20c4", "kd; ");
        goesOn(0, "br20c4k1", "d; ");
        goesOn(0, "br20c4k1d1", "; ");
        goesOn(0, "ir19", "; ");
        goesOn(0, "mw1", "lhs; ");
        goesOn(0, "mw1l1", "hs; ");
        goesOn(0, "mw1l1h1", "s; ");
        goesOn(0, "mw1l1h1s1", "; ");
        goesOn(0, "mw1;m", "wlhs; ");
    }

    /** Each item, first digit by first digit and second by second. */
    private static void numbers() {
        for (String item : ITEMS) {
            String[] parts = item.split(" ");
            int low = Integer.parseInt(parts[2]);
            int high = Integer.parseInt(parts[3]);
            String head = parts[0] + parts[1];
            String others = "; ";
            for (String other : ITEMS) {
                boolean mate = other.charAt(0) == item.charAt(0) && other.charAt(2) != item.charAt(2);
                others += mate ? other.substring(2, 3) : "";
            }
            goesOn(0, head, digits(0, low, high) + " ");
            goesOn(0, head + " ", digits(0, low, high) + " ");
            for (int n = 0; n < 10; n++) {
                if (n >= low && n <= high) {
                    goesOn(0, head + n, others + digits(n, low, high));
                    goesOn(0, head + n + " ", others);
                }
            }
            for (int n = Math.max(low, 0); n <= high; n += Math.max(1, high - low)) {
                goesOn(0, head + n / 10 + n % 10, others);
            }
            CHECKS.due("a third digit behind what is too large", Checks.fault(0, head + "990"), 4);
            CHECKS.due("a third digit behind noughts", Checks.fault(0, head + "00" + low), 4);
            CHECKS.due("a fourth digit", Checks.fault(0, head + "0000"), 4);
            CHECKS.due("a letter again", Checks.fault(0, head + high + parts[1]), head.length() + parts[3].length());
        }
    }

    /** The digits by which a number, begun with tens, is within bounds. */
    private static String digits(int tens, int low, int high) {
        StringBuilder digits = new StringBuilder();
        for (int n = 0; n < 10; n++) {
            if (tens * 10 + n >= low && tens * 10 + n <= high) {
                digits.append(n);
            }
        }
        return digits.toString();
    }

    /** "each once at most in a CLAUSE": once more in another one is fine. */
    private static void letterOfAnotherClause() {
        CHECKS.due("two of each", Checks.fault(0, "br1c1k1d1;br2c1k1d1;ir1;ir2;mw1l1h1s1;mw1l1h1s1;sr3w3"), -1);
        CHECKS.due("again in one", Checks.fault(0, "br1c1k1d1;br2c1k1d1r3;m"), 19);
    }

    private static void laws() {
        goesOn(1, "", "y ");
        goesOn(1, " ", "y ");
        goesOn(1, "y", ": ");
        goesOn(1, "y ", ": ");
        goesOn(1, "y:", UNIT);
        goesOn(1, "y: ", UNIT);
        for (char letter : LETTERS.toCharArray()) {
            goesOn(1, "y:" + letter, JOIN + "=<>;");
        }
        goesOn(1, "y:1", DIGITS + JOIN + "=<>;");
        goesOn(1, "y:123", DIGITS + JOIN + "=<>;");
        goesOn(1, "y:1234", JOIN + "=<>;");
        goesOn(1, "y:0000", JOIN + "=<>;");
        goesOn(1, "y:12 ", JOIN + "=<>;");
        for (char join : "+-*/".toCharArray()) {
            goesOn(1, "y:w" + join, ATOM);
            goesOn(1, "y:w" + join + "h", JOIN + "=<>;");
        }
        goesOn(1, "y:[", ATOM);
        goesOn(1, "y:[w", JOIN + "]");
        goesOn(1, "y:[w+12", DIGITS + JOIN + "]");
        goesOn(1, "y:[w]", JOIN + "=<>;");
        goesOn(1, "y:[[w]", JOIN + "]");
        goesOn(1, "y:w;", "y ");
        goesOn(1, "y:w;y", ": ");
        goesOn(1, "y:w;y:", UNIT);
        goesOn(1, "y:w;y:h", JOIN + "=<>;");
    }

    private static void conditions() {
        for (char sign : "=<>".toCharArray()) {
            goesOn(1, "y:w" + sign, ATOM);
            goesOn(1, "y:w" + sign + "h", JOIN + "&|?");
            goesOn(1, "y:w" + sign + "9", DIGITS + JOIN + "&|?");
        }
        goesOn(1, "y:w=1234", JOIN + "&|?");
        goesOn(1, "y:w=[h]", JOIN + "&|?");
        goesOn(1, "y:w=h&", UNIT);
        goesOn(1, "y:w=h|", UNIT);
        goesOn(1, "y:w=h&n", JOIN + "=<>");
        goesOn(1, "y:w=h|n=n", JOIN + "&|?");
        goesOn(1, "y:w=h?", ATOM);
        goesOn(1, "y:w=h?n", JOIN + ";");
        goesOn(1, "y:w=h?n;", "y ");
        goesOn(1, "y:!", UNIT);
        goesOn(1, "y:!w", JOIN + "=<>");
        goesOn(1, "y:!w=h", JOIN + "&|?");
        goesOn(1, "y:(", UNIT);
        goesOn(1, "y:(w", JOIN + "=<>");
        goesOn(1, "y:(w=", ATOM);
        goesOn(1, "y:(w=h", JOIN + "&|)");
        goesOn(1, "y:(w=h&", UNIT);
        goesOn(1, "y:(w=h)", "&|? ");
        goesOn(1, "y:((w=h)", "&|) ");
        goesOn(1, "y:!(w=h)", "&|? ");
        goesOn(1, "y:w=h&(n=1)", "&|? ");
        goesOn(1, "y:w=h|!n=p", JOIN + "&|?");
    }

    /** "At most six of ( [ ! within one another"; those that stand beside one another are not counted together. */
    private static void depths() {
        String plain = DIGITS + LETTERS + " ";
        goesOn(1, "y:[[[[[", ATOM);
        goesOn(1, "y:[[[[[[", plain);
        goesOn(1, "y:(((((", UNIT);
        goesOn(1, "y:((((((", plain);
        goesOn(1, "y:((((((w=", plain);
        goesOn(1, "y:((((((w=1&", plain);
        goesOn(1, "y:((((((w=1)", "&|) ");
        goesOn(1, "y:((((((w=1)&", UNIT);
        goesOn(1, "y:!!!!!", UNIT);
        goesOn(1, "y:!!!!!!", plain);
        goesOn(1, "y:!!!!!!w=", plain);
        goesOn(1, "y:!!!!!!w=1&", UNIT);
        goesOn(1, "y:!(!(![", plain);
        goesOn(1, "y:!(!(!", UNIT);
        goesOn(1, "y:w=[[[[[[", plain);
        goesOn(1, "y:w=1?[[[[[[", plain);
        goesOn(1, "y:[[[[[[w]]]]]]+", ATOM);
        goesOn(1, "y:[[[[[[w]+", ATOM);
        goesOn(1, "y:((((((w=1))))))&", UNIT);
        goesOn(1, "y:((((((w=1))))))?", ATOM);
    }

    /** One or two blanks at each place of the text: fine, but between two digits of one number. */
    private static void blanks(int sort, String text) {
        CHECKS.due("fault(" + sort + ") of [" + text + "]", Checks.fault(sort, text), -1);
        for (int at = 0; at <= text.length(); at++) {
            for (int n = 1; n <= 2; n++) {
                String wide = text.substring(0, at) + " ".repeat(n) + text.substring(at);
                boolean within = at > 0 && at < text.length() && Character.isDigit(text.charAt(at - 1))
                    && Character.isDigit(text.charAt(at));
                CHECKS.due("fault(" + sort + ") of [" + wide + "]", Checks.fault(sort, wide), within ? at + n : -1);
            }
        }
    }

    private static void blanks() {
        blanks(0, "sw9o8g60r20y9;br20c8k9d1;br2;ir19;i;mw9l2h9s9;m");
        blanks(1, "y:!(w=12&h<[p+1234])|n>r?c*[w-0]/3;y:h=1?w;y:7");
        for (int sign : new int[] {9, 10, 13, 11, 12, 95, 160}) {
            CHECKS.due("no blank: " + sign, Checks.fault(0, "m" + (char) sign + "w3"), 1);
            CHECKS.due("no blank: " + sign, Checks.fault(1, "y:" + (char) sign + "w"), 2);
        }
    }

    /** Texts of 240 bytes, the most that the tape holds. */
    private static void fullTape() {
        String canton = " ".repeat(239) + "m";
        CHECKS.due("a canton at the very end", Checks.fault(0, canton), -1);
        CHECKS.due("a fault at the last byte", Checks.fault(0, " ".repeat(239) + "x"), 239);
        CHECKS.due("it ends too early", Checks.fault(0, " ".repeat(239) + "b"), 240);
        CHECKS.due("nothing but blanks", Checks.fault(0, " ".repeat(240)), 240);
        CHECKS.due("nothing but blanks", Checks.fault(1, " ".repeat(240)), 240);
        CHECKS.due("a number at the very end", Checks.fault(0, " ".repeat(237) + "mw9"), -1);
        CHECKS.due("out of bounds at the very end", Checks.fault(0, " ".repeat(236) + "mw10"), 239);
        String sum = "y:" + "1+".repeat(118) + "1 ";
        CHECKS.due("a law of 240", sum.length() == 240 && Checks.fault(1, sum) == -1, true);
        CHECKS.due("a law that ends too early", Checks.fault(1, "y:" + "1+".repeat(119)), 240);
        CHECKS.due("a law with a fault at the last byte", Checks.fault(1, "y:" + "1+".repeat(118) + "1?"), 239);
        String clauses = "y:1;".repeat(59) + "y:1 ";
        CHECKS.due("sixty clauses", clauses.length() == 240 && Checks.fault(1, clauses) == -1, true);
        CHECKS.due("sixty clauses and ;", Checks.fault(1, "y:1;".repeat(60)), 240);
        SledgeVote x = Checks.of("m");
        Checks.law(x, "y:" + "w+".repeat(118) + "9 ");
        CHECKS.due("many letters: 99 at most", x.member(0, 6), 99);
        Checks.law(x, "y:" + "w-".repeat(118) + "9 ");
        CHECKS.due("many taken away: 0 at least", x.member(0, 6), 0);
        Checks.law(x, "y:1=2?1;".repeat(29) + "y:w*20 ");
        CHECKS.due("the last of thirty clauses", x.member(0, 6), 60);
        String row = "w=3&".repeat(56) + "h=3?42;y:7";
        Checks.law(x, "y:" + row);
        CHECKS.due("many truths", x.member(0, 6), 42);
    }
}
