/**
 * Each sentence of the document that names a bound, for promises 1 to 21 and 40 to 42 (parts 1, 2 and 4 of its
 * terms), with what holds on both sides of it. What stands in quotes are the document's words.
 */
public final class BoundsTest {
    private static final Checks CHECKS = new Checks("BoundsTest");
    private static final int NONE = SledgeVote.NONE;
    private static final int HIDDEN = SledgeVote.HIDDEN;

    public static void main(String[] args) {
        constants();
        tape();
        tapeEnd();
        itemsTold();
        usualItems();
        howManyClauses();
        lengthFaults();
        faultsGoneBy();
        anotherCanton();
        fourLaws();
        withinAMillion();
        division();
        worth();
        pushes();
        letters();
        ice();
        grip();
        besideTheRun();
        bumps();
        sides();
        lastRow();
        CHECKS.finish();
    }

    private static void constants() {
        CHECKS.due("NONE", SledgeVote.NONE, -1);
        CHECKS.due("HIDDEN", SledgeVote.HIDDEN, -1000000);
    }

    /** Promise 2: "bytes of 0 are left out", "NONE: more than 240". */
    private static void tape() {
        SledgeVote x = new SledgeVote();
        CHECKS.due("twenty bytes", x.feed(0x20202020, 0x20202020, 0x20202020, 0x20202020, 0x20202020), 20);
        x.end(0);
        for (int byteOfFour = 0; byteOfFour < 4; byteOfFour++) {
            int hole = 0x20202020 & ~(0xff << 8 * byteOfFour);
            CHECKS.due("a hole in the first", x.feed(hole, 0x20202020, 0x20202020, 0x20202020, 0x20202020), 19);
            x.end(0);
            CHECKS.due("a hole in the last", x.feed(0x20202020, 0x20202020, 0x20202020, 0x20202020, hole), 19);
            x.end(0);
            CHECKS.due("but one", x.feed(0, 0, 0x20202020 & ~hole, 0, 0), 1);
            x.end(0);
        }
        for (int sign = 1; sign < 256; sign++) {
            CHECKS.due("byte " + sign, x.feed(sign << 24, sign << 16, sign << 8, sign, 0), 4);
            x.end(0);
        }
        x.feed(0x6d773173, 0x326d0033, 0, 0, 0);
        CHECKS.due("the highest first, and on to the next number", x.fault(0), 5);
        x.end(0);
        for (int have = 221; have <= 240; have++) {
            for (int more = 0; more <= 20; more++) {
                x.end(0);
                Checks.put(x, " ".repeat(have));
                int[] n = new int[5];
                for (int i = 0; i < more; i++) {
                    n[i / 4] |= 0x20 << 24 - i % 4 * 8;
                }
                int due = have + more > 240 ? NONE : have + more;
                CHECKS.due(more + " to " + have, x.feed(n[0], n[1], n[2], n[3], n[4]), due);
                CHECKS.due("it has then", x.count(3), due == NONE ? have : due);
            }
        }
    }

    /** Promise 3: "False: n". */
    private static void tapeEnd() {
        SledgeVote x = new SledgeVote();
        Checks.put(x, " ".repeat(240));
        CHECKS.due("one more than there are", x.end(241), false);
        CHECKS.due("all of them", x.end(240), true);
        CHECKS.due("one less", x.end(239), true);
        CHECKS.due("it is gone", x.end(240), false);
        CHECKS.due("less than none", x.end(-1), false);
        CHECKS.due("none", x.end(0), true);
        CHECKS.due("none of none", x.end(0), true);
        CHECKS.due("one of none", x.end(1), false);
        Checks.put(x, "mw2l0");
        x.end(3);
        Checks.put(x, "h7");
        CHECKS.due("what comes then comes behind it", x.text(0), 1);
        CHECKS.due("weight, lean, heels", x.member(0, 0) * 100 + x.member(0, 1) * 10 + x.member(0, 2), 217);
    }

    private static void rules(String text, int... want) {
        SledgeVote x = Checks.of(text);
        for (int what = 0; what < 5; what++) {
            CHECKS.due("rule(" + what + ") of " + text, x.rule(what), want[what]);
        }
    }

    private static void bump(String text, int... want) {
        SledgeVote x = Checks.of(text);
        for (int what = 0; what < 4; what++) {
            CHECKS.due("bump(0, " + what + ") of " + text, x.bump(0, what), want[what]);
        }
        CHECKS.due("not strewn", x.bump(0, 4), 0);
    }

    private static void member(String text, int... want) {
        SledgeVote x = Checks.of(text);
        for (int what = 0; what < 4; what++) {
            CHECKS.due("member(0, " + what + ") of " + text, x.member(0, what), want[what]);
        }
    }

    /** Part 1: each item at the least and at the most that it can be. */
    private static void itemsTold() {
        rules("sw3;m", 3, 2, 6, 10, 3);
        rules("sw9;m", 9, 2, 6, 10, 3);
        rules("so0;m", 5, 0, 6, 10, 3);
        rules("so4;m", 5, 4, 6, 10, 3);
        rules("sw9o8;m", 9, 8, 6, 10, 3);
        rules("sg1;m", 5, 2, 1, 10, 3);
        rules("sg60;m", 5, 2, 60, 10, 3);
        rules("sr1;m", 5, 2, 6, 1, 3);
        rules("sr20;m", 5, 2, 6, 20, 3);
        rules("sy0;m", 5, 2, 6, 10, 0);
        rules("sy9;m", 5, 2, 6, 10, 9);
        rules("m;sy01r02g03o0w4", 4, 0, 3, 2, 1);
        bump("br1;m", 1, 0, 3, 0);
        bump("br20;m", 20, 0, 3, 0);
        bump("bc4;m", 1, 4, 3, 0);
        bump("bc8;sw9;m", 1, 8, 3, 0);
        bump("bk1;m", 1, 0, 1, 0);
        bump("bk9;m", 1, 0, 9, 0);
        bump("bd1;m", 1, 0, 3, 1);
        bump("bd00k04c03r02;m", 2, 3, 4, 0);
        CHECKS.due("ice in row 0", Checks.of("ir0;m").count(11), 1);
        CHECKS.due("ice in row 19", Checks.of("ir19;m").count(11), 1 << 19);
        CHECKS.due("ice in four rows", Checks.of("ir19;ir1;ir05;ir0;m").count(11), 1 << 19 | 2 | 32 | 1);
        member("mw1", 1, 1, 3, 2);
        member("mw9", 9, 1, 3, 2);
        member("ml0", 3, 0, 3, 2);
        member("ml2", 3, 2, 3, 2);
        member("mh0", 3, 1, 0, 2);
        member("mh9", 3, 1, 9, 2);
        member("ms0", 3, 1, 3, 0);
        member("ms9", 3, 1, 3, 9);
        member("ms08h07l02w06", 6, 2, 7, 8);
        SledgeVote x = Checks.of("mw8l2h7s6;ir18;br19c7k8d1;sw9o8g60r20y9");
        CHECKS.due("letters of several kinds: rows", x.rule(3) * 10000 + x.bump(0, 0) * 100 + x.member(0, 3), 201906);
        CHECKS.due("letters of several kinds: w", x.rule(0) * 10 + x.member(0, 0), 98);
    }

    /** Part 1: what each item is without being told. */
    private static void usualItems() {
        rules("m", 5, 2, 6, 10, 3);
        rules("s;m", 5, 2, 6, 10, 3);
        bump("b;m", 1, 0, 3, 0);
        member("m", 3, 1, 3, 2);
        CHECKS.due("i", Checks.of("i;m").count(11), 1);
        CHECKS.due("without", Checks.of("m").count(11), 0);
        SledgeVote x = Checks.of("mw9l2h9s9;m;mw8");
        CHECKS.due("not what was told of another one", x.member(1, 0) * 1000 + x.member(1, 1) * 100
            + x.member(1, 2) * 10 + x.member(1, 3), 3132);
        x = Checks.of("br9c4k9d1;b;m");
        CHECKS.due("not what was told of another one", x.bump(1, 0) * 1000 + x.bump(1, 1) * 100 + x.bump(1, 2) * 10
            + x.bump(1, 3), 1030);
    }

    /** Part 1: "one at most", "none to 6", "none to 4", "1 .. 6", "in any order". */
    private static void howManyClauses() {
        StringBuilder members = new StringBuilder();
        for (int n = 1; n <= 6; n++) {
            members.append(n > 1 ? ";" : "").append("mw").append(n);
            SledgeVote x = new SledgeVote();
            CHECKS.due(n + " members", Checks.canton(x, members.toString()), n);
            CHECKS.due("count(0)", x.count(0), n);
            CHECKS.due("count(7)", x.count(7), (1 << n) - 1);
            for (int m = 0; m < n; m++) {
                CHECKS.due("weight", x.member(m, 0), m + 1);
                CHECKS.due("\"at first as they are told\"", x.member(m, 4), m);
                CHECKS.due("on the sledge", x.member(m, 5), 1);
            }
        }
        CHECKS.due("seven", Checks.canton(new SledgeVote(), members + ";mw7"), NONE);
        StringBuilder bumps = new StringBuilder("m");
        for (int n = 0; n <= 6; n++) {
            SledgeVote x = Checks.of(bumps.toString());
            CHECKS.due(n + " bumps", x.count(1), n);
            for (int b = 0; b < 6; b++) {
                CHECKS.due("row of bump " + b, x.bump(b, 0), b < n ? 20 - b : NONE);
            }
            bumps.append(";br").append(20 - n);
        }
        CHECKS.due("seven", Checks.canton(new SledgeVote(), bumps.toString()), NONE);
        CHECKS.due("five of ice", Checks.canton(new SledgeVote(), "m;i;ir1;ir2;ir3;ir4"), NONE);
        String all = "m;b;i;m;br2;ir1;m;br3;ir2;m;br4;ir3;m;br5;s;m;br6";
        CHECKS.due("all that can be", Checks.canton(new SledgeVote(), all), 6);
        CHECKS.due("rules twice", Checks.canton(new SledgeVote(), "s;m;s"), NONE);
    }

    private static void fault(String text, int want) {
        CHECKS.due("fault(0) of [" + text + "]", Checks.fault(0, text), want);
    }

    /** Part 1: what makes a text wrong at its length. */
    private static void lengthFaults() {
        fault("", 0);
        fault("s", 1);
        fault("b;i;s", 5);
        fault("b ", 2);
        for (int width = 3; width <= 9; width++) {
            for (int column = 0; column <= 8; column++) {
                fault("sw" + width + "o" + column + ";m", column < width ? -1 : 7);
                fault("m;so" + column + "w" + width, column < width ? -1 : 7);
                if (width > 2) {
                    fault("bc" + column + ";m;sw" + width, column < width ? -1 : 9);
                    fault("sw" + width + ";b;br2c" + column + ";m", column < width ? -1 : 13);
                }
            }
        }
        fault("b;b;m", 5);
        fault("b;bc1;m", -1);
        fault("b;br2;m", -1);
        fault("br1c0k1d0;m;br1c0k9d1 ", 22);
        fault("br20c4;br19c4;br18c4;br17c4;br16c4;br20c4;m", 43);
        fault("br20c4;br19c4;br18c4;br17c4;br16c4;br20c3;m", -1);
        fault("i;i;m", 5);
        fault("i;ir1;m", -1);
        fault("ir19;ir18;ir17;ir19;m", 21);
        fault("ir19;ir18;ir17;ir16;m", -1);
        fault("b;i;m", -1);
    }

    /** Promise 4: what was wrong with a text ahead is not wrong with the next one on the same tape. */
    private static void faultsGoneBy() {
        String[] wrong = {"i;i;m", "b;b;m", "sw3o3;m", "bc5;m", "s;s", "m;m;m;m;m;m;m", "b;b;b;b;b;b;b", "i;i;i;i;i",
            "mw0", "mw100", "mw3w3", "s", "x", "y:1", ""};
        SledgeVote x = new SledgeVote();
        for (String text : wrong) {
            x.end(0);
            Checks.put(x, text);
            CHECKS.due("[" + text + "] is wrong", x.fault(0) != NONE && x.text(0) == NONE, true);
            x.end(0);
            Checks.put(x, "s;b;i;m;mw9");
            CHECKS.due("fine behind [" + text + "]", x.fault(0), NONE);
            CHECKS.due("taken", x.text(0), 2);
            CHECKS.due("bumps and ice", x.count(1) * 10 + x.count(11), 11);
            CHECKS.due("width, the column at the top", x.rule(0) * 10 + x.rule(1), 52);
        }
        String[] wrongLaws = {"y:[[[[[[[1", "y:!!!!!!!", "y:12345", "y:1+", "y:w=1", "y:(w=1", "", "m"};
        for (String text : wrongLaws) {
            x.end(0);
            Checks.put(x, text);
            CHECKS.due("[" + text + "] is wrong", x.fault(1) != NONE && x.text(1) == NONE, true);
            x.end(0);
            Checks.put(x, "y:[[[[[[w]]]]]]=9?8;y:7");
            CHECKS.due("fine behind [" + text + "]", x.fault(1), NONE);
        }
        CHECKS.due("taken", x.text(1), 0);
        x.law(0);
        CHECKS.due("push", x.member(0, 6) * 10 + x.member(1, 6), 78);
    }

    /** Promise 5: "all that was of another one, SEEN, too, is gone but LAWS, which holds, DOGS, STATUS". */
    private static void anotherCanton() {
        SledgeVote x = Checks.of("sr1w9o5;br1c5k9;br7c3;ir7;ir3;mw9h9s9l0;mw8;mw7;mw6;mw5l2;mw4");
        Checks.law(x, "y:w*2");
        Checks.law(x, "y:h*w");
        x.dogs(7);
        x.sessions(3, 99);
        x.walk();
        x.strew(0);
        x.heel(1);
        x.change(1, 5);
        x.lean(3, 3);
        x.lean(7, 3);
        x.seen(20, 3, false);
        x.image();
        int[] status = Whole.status(x);
        SledgeVote y = new SledgeVote();
        Checks.law(y, "y:w*2");
        Checks.law(y, "y:h*w");
        y.dogs(7);
        for (String text : new String[] {"m", HandTest.CANTON, "sy0;m;m;m;m;m;m"}) {
            Checks.canton(x, text);
            Checks.canton(y, text);
            String unlike = Whole.unlike(Whole.of(x), Whole.of(y));
            CHECKS.due("as in one that had no other: " + unlike, unlike.isEmpty(), true);
            for (int what = 0; what < 5; what++) {
                CHECKS.due("status stays", x.status(what), status[what]);
            }
            CHECKS.due("row, sessions, seen, log, acts", x.count(5) + x.count(8) + x.count(10) + x.count(12)
                + x.count(13), 0);
            CHECKS.due("the tape is empty", x.count(3), 0);
            CHECKS.due("no act", x.undo(), NONE);
            CHECKS.due("no image", x.back(), NONE);
        }
        Checks.canton(x, HandTest.CANTON);
        x.rows(2);
        x.image();
        Checks.put(x, HandTest.CANTON);
        CHECKS.due("the same once more is another one", x.text(0), 3);
        CHECKS.due("at the top", x.count(5) * 10 + x.count(7), 7);
        CHECKS.due("no image of it", x.back(), NONE);
    }

    /** Part 1 and promise 5: "LAWS (4 at most)"; promise 9. */
    private static void fourLaws() {
        SledgeVote x = Checks.of("m");
        CHECKS.due("no law holds at first", x.count(4), NONE);
        for (int n = 0; n < 4; n++) {
            CHECKS.due("the next one is not there yet", x.law(n), false);
            Checks.put(x, "y:5" + n);
            CHECKS.due("its number", x.text(1), n);
            CHECKS.due("how many", x.count(2), n + 1);
            CHECKS.due("it does not hold by being told", x.count(4), n - 1);
            CHECKS.due("now it does", x.law(n), true);
            CHECKS.due("push", x.member(0, 6), 50 + n);
        }
        Checks.put(x, "y:60");
        CHECKS.due("a fifth one", x.text(1), NONE);
        CHECKS.due("it has no fault", x.fault(1), NONE);
        CHECKS.due("the tape stays", x.count(3), 4);
        CHECKS.due("how many", x.count(2), 4);
        CHECKS.due("the last one holds all the same", x.member(0, 6), 53);
        CHECKS.due("law(4)", x.law(4), false);
        CHECKS.due("law(-2)", x.law(-2), false);
        CHECKS.due("law(3)", x.law(3), true);
        CHECKS.due("law(0)", x.law(0), true);
        CHECKS.due("by the first", x.member(0, 6), 50);
        CHECKS.due("law(NONE)", x.law(NONE), true);
        CHECKS.due("law(NONE) again", x.law(NONE), true);
        CHECKS.due("none: the weight", x.member(0, 6), 3);
        x.end(0);
        CHECKS.due("a canton with four laws", Checks.canton(x, "m;m"), 2);
        CHECKS.due("without a canton", new SledgeVote().law(NONE), true);
    }

    /** PUSH by a law of a member with weight 4, heels 7, in seat 1 of 2, in row 0 and column 2. */
    private static void push(String law, int want) {
        SledgeVote x = Checks.of("m;mw4h7");
        CHECKS.due("[" + law + "] is a law", Checks.law(x, law), 0);
        CHECKS.due("push by " + law, x.member(1, 6), want);
    }

    /** The condition holds. */
    private static void holds(String condition) {
        push("y:" + condition + "?11;y:22", 11);
    }

    /** Part 1: "Behind each sign numbers are within -1,000,000 .. 1,000,000". */
    private static void withinAMillion() {
        holds("1000*1000>999*1000+999");
        holds("1000*1000=999*1000+999+1");
        holds("1000*1000=1000*1000+1");
        holds("1000*1000=9999*9999");
        holds("1000*1000+1-1=999*1000+999");
        holds("1000*1000-1=999*1000+999");
        holds("1000*1001-1=999*1000+999");
        holds("1000*1000*2/2=500*1000");
        holds("0-1000*1000<0-999*1000-999");
        holds("0-1000*1000=0-999*1000-999-1");
        holds("0-1000*1000=0-1000*1000-1");
        holds("0-1000*1000-1+1=0-999*1000-999");
        holds("[0-9999]*9999=0-1000*1000");
        holds("9999*[0-9999]=0-1000*1000");
        holds("[0-1000]*1000*2/2=0-500*1000");
        holds("[0-9999]*[0-9999]=1000*1000");
        holds("1000*1000+9999*1000-1000*1000=0");
        holds("1000*1000/[0-1]=0-1000*1000");
        holds("[0-1000*1000]/[0-1]=1000*1000");
        holds("9999+9999=9999*2");
        holds("0-9999-9999=0-9999*2");
        holds("9999*100/9999=100");
    }

    private static String number(int n) {
        return n < 0 ? "[0-" + -n + "]" : "" + n;
    }

    /** Part 1: "/ cuts towards 0, by 0 gives 0". */
    private static void division() {
        for (int a = -7; a <= 7; a++) {
            for (int b = -3; b <= 3; b++) {
                int due = b == 0 ? 0 : a / b;
                holds(number(a) + "/" + number(b) + "=" + number(due));
                holds("!" + number(a) + "/" + number(b) + "<" + number(due));
            }
        }
        holds("0/0=0");
        holds("9999/0=0");
        holds("9999/0*9+1=1");
        holds("9999/[w-4]+1=1");
        push("y:99/0", 0);
        push("y:7/0+5", 5);
    }

    /** Part 1: "the SUM of the first CLAUSE whose CONDITION holds (or has none), 0 without". */
    private static void worth() {
        push("y:1=2?50", 0);
        push("y:1=2?50;y:1=3?60", 0);
        push("y:1=2?50;y:1=1?60", 60);
        push("y:1=2?50;y:60", 60);
        push("y:1=1?50;y:60", 50);
        push("y:50;y:1=1?60", 50);
        push("y:50;y:60", 50);
        push("y:1=1?50;y:1=1?60", 50);
        push("y:1=2?50;y:1=2?60;y:1=1?70;y:80", 70);
        for (int a = 1; a <= 3; a++) {
            push("y:2=" + a + "?7;y:8", a == 2 ? 7 : 8);
            push("y:2<" + a + "?7;y:8", a > 2 ? 7 : 8);
            push("y:2>" + a + "?7;y:8", a < 2 ? 7 : 8);
        }
        comparisons();
        for (int bits = 0; bits < 8; bits++) {
            boolean a = (bits & 1) != 0;
            boolean b = (bits & 2) != 0;
            boolean c = (bits & 4) != 0;
            String one = a ? "1=1" : "1=2";
            String two = b ? "1=1" : "1=2";
            String three = c ? "1=1" : "1=2";
            push("y:" + one + "|" + two + "&" + three + "?7;y:8", a || b && c ? 7 : 8);
            push("y:" + one + "&" + two + "|" + three + "?7;y:8", a && b || c ? 7 : 8);
            push("y:(" + one + "|" + two + ")&" + three + "?7;y:8", (a || b) && c ? 7 : 8);
            push("y:" + one + "&(" + two + "|" + three + ")?7;y:8", a && (b || c) ? 7 : 8);
            push("y:!" + one + "&" + two + "|" + three + "?7;y:8", !a && b || c ? 7 : 8);
            push("y:!(" + one + "&" + two + ")|" + three + "?7;y:8", !(a && b) || c ? 7 : 8);
            push("y:!(!" + one + "|!!" + two + ")?7;y:8", !(!a || b) ? 7 : 8);
        }
        push("y:1=2|1=1&(1=2|1=1&(1=2|1=1&(1=2|1=1&(1=2|1=1&(1=2|1=1&40=1+3*13)))))?7;y:8", 7);
        push("y:1=2|1=1&(1=2|1=1&(1=2|1=1&(40=1+3*[2+1*[3+2*[1+3*1]]]-4+4)))?7;y:8", 7);
        push("y:[1+2*[1+2*[1+2*[1+2*[1+2*[1+2*1]]]]]]-100", 27);
    }

    /** Each of = < > below each of ! & | ( ), holding and not. */
    private static void comparisons() {
        for (char sign : "=<>".toCharArray()) {
            for (int a = 1; a <= 3; a++) {
                boolean truth = sign == '=' ? a == 2 : sign == '<' ? a < 2 : a > 2;
                String unit = a + "" + sign + "2";
                push("y:!" + unit + "?7;y:8", truth ? 8 : 7);
                push("y:!!" + unit + "?7;y:8", truth ? 7 : 8);
                push("y:(" + unit + ")?7;y:8", truth ? 7 : 8);
                push("y:" + unit + "&1=1?7;y:8", truth ? 7 : 8);
                push("y:1=1&" + unit + "?7;y:8", truth ? 7 : 8);
                push("y:" + unit + "|1=2?7;y:8", truth ? 7 : 8);
                push("y:1=2|" + unit + "?7;y:8", truth ? 7 : 8);
                push("y:!(" + unit + "&1<2)?7;y:8", truth ? 8 : 7);
                push("y:!(" + unit + "|2>3)?7;y:8", truth ? 8 : 7);
                push("y:!(" + unit + "&" + unit + ")?7;y:8", truth ? 8 : 7);
            }
        }
    }

    /** Part 2: "held within 0 .. 99 (none at first: WEIGHT)". */
    private static void pushes() {
        push("y:0-1", 0);
        push("y:0", 0);
        push("y:1", 1);
        push("y:98", 98);
        push("y:99", 99);
        push("y:100", 99);
        push("y:1000*1000", 99);
        push("y:0-1000*1000", 0);
        push("y:9999", 99);
        for (int weight = 1; weight <= 9; weight++) {
            CHECKS.due("no law: the weight", Checks.of("mw" + weight).member(0, 6), weight);
        }
        SledgeVote x = Checks.of("sg60r1;ml2;ml2;ml2;ml2;ml2;ml2;ir0");
        Checks.law(x, "y:100");
        CHECKS.due("six of 99, twice", x.sum(), 1188);
        x.rows(1);
        CHECKS.due("the log has it", x.log(0, 1), 1188);
        x = Checks.of("sg60r1;ml0;ml0;ml0;ml0;ml0;ml0;ir0");
        Checks.law(x, "y:100");
        CHECKS.due("six of 99 to the left, twice", x.sum(), -1188);
        x.rows(1);
        CHECKS.due("the log has it", x.log(0, 1), -1188);
    }

    /** Part 2: "w WEIGHT, h HEELS, p SEAT, n how many are on the sledge, r ROW, c COLUMN". */
    private static void letters() {
        SledgeVote x = Checks.of("sr3g60;br2c2k4d0;mw2h0;mw3h9;mw5h4l2");
        Checks.law(x, "y:n*10+p");
        CHECKS.due("three on it, seat 0", x.member(0, 6), 30);
        x.change(0, 2);
        CHECKS.due("seat 2", x.member(0, 6), 32);
        x.rows(2);
        CHECKS.due("two on it", x.member(1, 6), 21);
        CHECKS.due("\"would, if on it\": off the sledge, two are on it", x.member(0, 6), 22);
        Checks.law(x, "y:r*10+c");
        CHECKS.due("row 2, column 1", x.member(1, 6), 21);
        x.rows(1);
        CHECKS.due("at the last row", x.member(1, 6), 31);
        x.walk();
        CHECKS.due("at the top", x.member(1, 6), 2);
        Checks.law(x, "y:h*10+w");
        CHECKS.due("heels and weight", x.member(2, 6), 45);
        x.heel(2);
        CHECKS.due("heels now", x.member(2, 6), 55);
    }

    /** Part 2: "twice that, if the ROW has ICE": the row that it leaves, not the one that it comes to. */
    private static void ice() {
        SledgeVote x = Checks.of("sr20g60;ir0;ir1;ir19;ir3;ml2");
        for (int row = 0; row < 20; row++) {
            int due = row == 0 || row == 1 || row == 3 || row == 19 ? 6 : 3;
            CHECKS.due("sum() in row " + row, x.sum(), due);
            x.rows(1);
            CHECKS.due("log of row " + row, x.log(0, 1), due);
        }
        CHECKS.due("row 20 has none", x.sum(), 3);
        CHECKS.due("half the grip is enough on ice", Checks.of("sr1g6;i;ml2").rows(1), 3);
        CHECKS.due("not a row further down", Checks.of("sr1g6;ir1;ml2").rows(1), 2);
        CHECKS.due("to the left, too", Checks.of("sr1g6;i;ml0").rows(1), 1);
        x = Checks.of("sr1g6;ir1;ml2");
        x.rows(1);
        CHECKS.due("\"also at the last ROW\", with its ice", x.sum(), 6);
        CHECKS.due("ice beyond the last row", Checks.of("sr1;ir19;m").count(11), 1 << 19);
    }

    /** Part 2: "with GRIP or more", "with less GRIP or less (below 0)". */
    private static void grip() {
        for (int weight = 1; weight <= 9; weight++) {
            for (int grip = 1; grip <= 9; grip++) {
                String rules = "sr1g" + grip + ";mw" + weight;
                CHECKS.due("right " + rules, Checks.of(rules + "l2").rows(1), weight >= grip ? 3 : 2);
                CHECKS.due("left " + rules, Checks.of(rules + "l0").rows(1), weight >= grip ? 1 : 2);
                CHECKS.due("none " + rules, Checks.of(rules + "l1").rows(1), 2);
            }
        }
        CHECKS.due("nobody pushes, the least grip", Checks.of("sr1g1;ml2;ml0").rows(1), 2);
        SledgeVote x = Checks.of("sr3g60;ml2;ml2");
        Checks.law(x, "y:29+r");
        CHECKS.due("58", x.rows(1), 2);
        CHECKS.due("60 is the most grip", x.rows(1), 3);
        CHECKS.due("62", x.rows(1), 4);
        x = Checks.of("sr3g60;ml0;ml0");
        Checks.law(x, "y:29+r");
        CHECKS.due("-58", x.rows(1), 2);
        CHECKS.due("-60", x.rows(1), 1);
        CHECKS.due("-62", x.rows(1), 0);
    }

    /** Part 2: one column to a side, "if there is one". */
    private static void besideTheRun() {
        for (int width = 3; width <= 9; width++) {
            for (int column = 0; column < width; column++) {
                String rules = "sr1g1w" + width + "o" + column;
                int right = Math.min(width - 1, column + 1);
                int left = Math.max(0, column - 1);
                CHECKS.due("right of " + rules, Checks.of(rules + ";ml2").rows(1), right);
                CHECKS.due("left of " + rules, Checks.of(rules + ";ml0").rows(1), left);
                CHECKS.due("thrown right, " + rules, Checks.of(rules + ";bd1c" + column + ";m").rows(1), right);
                CHECKS.due("thrown left, " + rules, Checks.of(rules + ";bd0c" + column + ";m").rows(1), left);
            }
        }
    }

    /** Part 2: "at a BUMP (not STREWN) there: all on the sledge with HEELS below its KICK FALL". */
    private static void bumps() {
        for (int kick = 1; kick <= 9; kick++) {
            for (int heels = 0; heels <= 9; heels++) {
                SledgeVote x = Checks.of("sr1;bc2k" + kick + ";mh" + heels);
                x.rows(1);
                CHECKS.due("kick " + kick + ", heels " + heels, x.count(7), heels < kick ? 0 : 1);
                CHECKS.due("thrown all the same", x.count(6), 1);
                CHECKS.due("in the log", x.log(0, 2), heels < kick ? 1 : 0);
            }
        }
        SledgeVote x = Checks.of("sr2;bc2k3;br2c1k9;mh2;mh5;mh9");
        x.rows(1);
        CHECKS.due("the first", x.log(0, 2), 1);
        x.rows(1);
        CHECKS.due("who is off the sledge falls no more", x.log(0, 2), 2);
        CHECKS.due("one is left", x.count(7), 4);
        x = Checks.of("sr1y1;bc2k9;mh0");
        x.strew(0);
        CHECKS.due("strewn: not thrown", x.rows(1), 2);
        CHECKS.due("strewn: nobody fell", x.count(7) * 10 + x.log(0, 2), 10);
        x = Checks.of("sr1;bc2k1d1;bc3k9d1;mh5");
        CHECKS.due("\"what is in that one does not matter\": the column", x.rows(1), 3);
        CHECKS.due("\"what is in that one does not matter\": who is on it", x.count(7), 1);
        x = Checks.of("sr1g3;bc2k9;bc3k1d1;ml2");
        CHECKS.due("the bump of the column that it comes to", x.rows(1), 4);
        CHECKS.due("not of the one that it leaves", x.count(7), 1);
        x = Checks.of("sr2;br2c2k9;m");
        x.rows(1);
        CHECKS.due("not a row ahead", x.count(7), 1);
        x.rows(1);
        CHECKS.due("at the last row", x.count(7) * 10 + x.count(6), 1);
        x = Checks.of("sr20;br20c2k9;m");
        x.rows(20);
        CHECKS.due("in row 20", x.count(7) * 10 + x.count(6), 1);
        x = Checks.of("sr19;br20c2k9;m");
        x.rows(19);
        CHECKS.due("beyond the last row", x.count(7) * 10 + x.count(6), 12);
    }

    /** Part 2: "SIDE at the last ROW". */
    private static void sides() {
        String[] due = {"012", "0022", "00122", "000222", "0001222", "00002222", "000012222"};
        for (int width = 3; width <= 9; width++) {
            for (int column = 0; column < width; column++) {
                SledgeVote x = Checks.of("sr1w" + width + "o" + column + ";m");
                CHECKS.due("side of " + column + " of " + width, x.ends(1), due[width - 3].charAt(column) - '0');
            }
        }
    }

    /** Part 2: "it can't go on at the last ROW". */
    private static void lastRow() {
        for (int rows = 1; rows <= 20; rows++) {
            SledgeVote x = Checks.of("sg60r" + rows + ";m");
            CHECKS.due("one too many of " + rows, x.rows(rows + 1), NONE);
            CHECKS.due("status", x.status(rows == 20 ? 1 : 4), 1);
            CHECKS.due("it stands at the top", x.count(5), 0);
            CHECKS.due("all of " + rows, x.rows(rows), 2);
            CHECKS.due("it is at the last one", x.count(5), rows);
            CHECKS.due("one more", x.rows(1), NONE);
            CHECKS.due("status(4)", x.status(4), rows == 20 ? 1 : 2);
            CHECKS.due("log", x.count(12), rows);
            CHECKS.due("no log of what was refused", x.log(rows, 0), HIDDEN);
        }
    }
}
