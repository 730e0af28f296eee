import java.math.BigInteger;

/**
 * Each sentence of the document that names a bound of what is done: ACTS and what is UNDONE, STATUS, the LOG,
 * SESSIONS by draws and IMAGES (promises 11 to 21, 40 to 42).
 */
public final class ActsTest {
    private static final Checks CHECKS = new Checks("ActsTest");
    private static final int NONE = SledgeVote.NONE;
    private static final int HIDDEN = SledgeVote.HIDDEN;

    private interface Act {
        long on(SledgeVote x);
    }

    public static void main(String[] args) {
        leaning();
        seats();
        heels();
        straw();
        walkBack();
        statusOfEach();
        whatIsAnAct();
        eachUndone();
        fortyActs();
        fortySessions();
        twoThousandRows();
        sixtyRows();
        sixtyRowsUndone();
        logOfSessions();
        dogs();
        draws();
        drawBelowDogs();
        seeds();
        howManySessions();
        sessionOnTheWay();
        sessionUndone();
        imageKeeps();
        imageInstead();
        imageOfSixty();
        backLeaves();
        counts();
        CHECKS.finish();
    }

    /** Promise 11: "LEAN before". */
    private static void leaning() {
        for (int from = 0; from < 3; from++) {
            for (int to = -1; to < 4; to++) {
                SledgeVote x = Checks.of("m;ml" + from);
                boolean bounds = to < 0 || to > 2;
                CHECKS.due("from " + from + " to " + to, x.lean(1, to), bounds || to == from ? NONE : from);
                CHECKS.due("out of bounds", x.status(1), bounds ? 1 : 0);
                CHECKS.due("it is so", x.status(2), to == from ? 1 : 0);
                CHECKS.due("lean then", x.member(1, 1), bounds ? from : to);
                CHECKS.due("of the other one", x.member(0, 1), 1);
            }
        }
        SledgeVote x = Checks.of("m;m;m;m;m;ml2");
        CHECKS.due("the last of six", x.lean(5, 0), 2);
        CHECKS.due("a seventh", x.lean(6, 0), NONE);
        CHECKS.due("no such one", x.status(0), 1);
    }

    /** Promise 12: "the SEAT of the first then"; part 2: "also those who FELL: they keep a SEAT". */
    private static void seats() {
        SledgeVote x = Checks.of("sr1;bc2k5;mh9;mh0;mh9;mh0;m;mh9");
        CHECKS.due("the first and the last", x.change(0, 5), 5);
        CHECKS.due("and back", x.change(0, 5), 0);
        CHECKS.due("told the other way round", x.change(5, 0), 0);
        x.rows(1);
        CHECKS.due("two who fell", x.change(1, 3), 3);
        CHECKS.due("one who fell, and one who did not", x.change(1, 2), 2);
        int[] due = {5, 2, 3, 1, 4, 0};
        for (int m = 0; m < 6; m++) {
            CHECKS.due("seat of " + m, x.member(m, 4), due[m]);
        }
        CHECKS.due("alike", x.change(1, 1), NONE);
        CHECKS.due("status(2)", x.status(2), 1);
        CHECKS.due("a seventh", x.change(6, 6), NONE);
        CHECKS.due("status(0)", x.status(0), 1);
        CHECKS.due("one alone has none to change with", Checks.of("m").change(0, 0), NONE);
    }

    /** Promise 13: "one more, 9 at most". */
    private static void heels() {
        SledgeVote x = Checks.of("sr1;bc2k9;mh0;mh8;mh9");
        for (int n = 1; n <= 9; n++) {
            CHECKS.due("heel(0)", x.heel(0), n);
        }
        CHECKS.due("nine", x.heel(0), NONE);
        CHECKS.due("from eight to nine", x.heel(1), 9);
        CHECKS.due("nine", x.heel(1), NONE);
        CHECKS.due("nine as told", x.heel(2), NONE);
        CHECKS.due("status(2)", x.status(2), 3);
        x.rows(1);
        CHECKS.due("with nine nobody falls", x.count(7), 7);
        x = Checks.of("sr1;bc2;mh0");
        x.rows(1);
        CHECKS.due("one who fell", x.heel(0), 1);
        CHECKS.due("it is off all the same", x.count(7), 0);
    }

    /** Promise 14: "STRAW one less; once". */
    private static void straw() {
        for (int straw = 0; straw <= 9; straw++) {
            SledgeVote x = Checks.of("sy" + straw + ";b;br2;br3;br4;br5;br6;m");
            for (int b = 0; b < 6; b++) {
                CHECKS.due("strew(" + b + ") of " + straw, x.strew(b), b < straw ? straw - b - 1 : NONE);
                CHECKS.due("rule(4)", x.rule(4), Math.max(0, straw - b - 1));
                CHECKS.due("bump(" + b + ", 4)", x.bump(b, 4), b < straw ? 1 : 0);
                CHECKS.due("once more", x.strew(b), NONE);
            }
            int done = Math.min(straw, 6);
            CHECKS.due("it is", x.status(2), done);
            CHECKS.due("no straw", x.status(3), 2 * (6 - done));
            CHECKS.due("a seventh", x.strew(6), NONE);
            CHECKS.due("no such one", x.status(0), 1);
        }
        SledgeVote x = Checks.of("sr2;b;br2;m");
        x.rows(2);
        CHECKS.due("at the last row, a bump gone by", x.strew(0), 2);
    }

    /** Promise 16: "at the last ROW alone". */
    private static void walkBack() {
        SledgeVote x = Checks.of("sr3o4;br1c4k9;mh0;mh9");
        for (int row = 0; row < 3; row++) {
            CHECKS.due("in row " + row, x.walk(), NONE);
            CHECKS.due("not there yet", x.status(4), row + 1);
            x.rows(1);
        }
        CHECKS.due("one fell", x.count(7), 2);
        CHECKS.due("at the last row", x.walk(), 1);
        CHECKS.due("row 0", x.count(5), 0);
        CHECKS.due("the column at the top", x.count(6), 4);
        CHECKS.due("all are on the sledge", x.count(7), 3);
        CHECKS.due("once only", x.walk(), NONE);
        CHECKS.due("sessions", x.count(8), 1);
        for (int n = 2; n <= 30; n++) {
            x.rows(3);
            CHECKS.due("sessions", x.walk(), n);
        }
    }

    private static void refusedOnce(String canton, int why, Act act) {
        SledgeVote x = Checks.of(canton);
        CHECKS.due("refused", act.on(x), NONE);
        for (int what = 0; what < 5; what++) {
            CHECKS.due("status(" + what + "), refused for " + why, x.status(what), what == why ? 1 : 0);
        }
        CHECKS.due("no act", x.count(13), 0);
    }

    /** Part 2: STATUS, "of several the first". */
    private static void statusOfEach() {
        refusedOnce("m", 0, x -> x.lean(1, 1));
        refusedOnce("m", 0, x -> x.lean(1, 7));
        refusedOnce("m", 1, x -> x.lean(0, 7));
        refusedOnce("m", 2, x -> x.lean(0, 1));
        refusedOnce("m", 0, x -> x.change(1, 1));
        refusedOnce("m", 0, x -> x.change(0, 1));
        refusedOnce("m", 0, x -> x.change(1, 0));
        refusedOnce("m", 2, x -> x.change(0, 0));
        refusedOnce("m", 0, x -> x.heel(1));
        refusedOnce("mh9", 2, x -> x.heel(0));
        refusedOnce("sy0;b;m", 0, x -> x.strew(1));
        refusedOnce("sy0;b;m", 3, x -> x.strew(0));
        refusedOnce("m", 1, x -> x.rows(0));
        refusedOnce("sr1;m", 1, x -> x.rows(21));
        refusedOnce("sr1;m", 4, x -> x.rows(2));
        refusedOnce("sr1;m", 4, x -> x.walk());
        SledgeVote x = new SledgeVote();
        for (int n = 1; n <= 100; n++) {
            x.walk();
            CHECKS.due("it goes on counting", x.status(0), n);
        }
    }

    /** Part 2: "All these (each ROW) are ACTS"; part 4: "Each SESSION is one ACT". */
    private static void whatIsAnAct() {
        SledgeVote x = Checks.of(HandTest.CANTON);
        CHECKS.due("no act by the text", x.count(13), 0);
        x.lean(0, 0);
        CHECKS.due("a lean", x.count(13), 1);
        x.change(0, 1);
        CHECKS.due("seats", x.count(13), 2);
        x.heel(0);
        CHECKS.due("heels", x.count(13), 3);
        x.strew(0);
        CHECKS.due("straw", x.count(13), 4);
        x.rows(6);
        CHECKS.due("six rows", x.count(13), 10);
        x.walk();
        CHECKS.due("the walk back", x.count(13), 11);
        x.sessions(1, 4);
        CHECKS.due("a session", x.count(13), 12);
        x.sessions(3, 4);
        CHECKS.due("three sessions, each with a walk back and rows", x.count(13), 15);
        x.dogs(4);
        x.seen(1, 1, true);
        Checks.law(x, "y:1");
        x.image();
        x.walk();
        x.walk();
        CHECKS.due("no act but one walk back", x.count(13), 16);
        CHECKS.due("what is undone is none", x.undo(), 15);
        CHECKS.due("what is undone is none", x.count(13), 15);
    }

    private static void undone(String name, SledgeVote x, Act act) {
        String before = Whole.of(x);
        int acts = x.count(13);
        act.on(x);
        CHECKS.due(name + " did something", Whole.unlike(before, Whole.of(x)).isEmpty(), false);
        CHECKS.due("undo of " + name, x.undo(), acts);
        String unlike = Whole.unlike(Whole.of(x), before);
        CHECKS.due(name + " is undone: " + unlike, unlike.isEmpty(), true);
    }

    /** Promise 20: each kind of act, undone, leaves all as it was. */
    private static void eachUndone() {
        SledgeVote x = Checks.of("sr3;bc2k5d1;br3c1;mw2l2;mw5h5;ml0h9");
        for (int part = 0; part < 3; part++) {
            undone("lean", x, y -> y.lean(0, 1));
            undone("change", x, y -> y.change(0, 2));
            undone("heel", x, y -> y.heel(0));
            undone("strew", x, y -> y.strew(1));
            undone("a session", x, y -> y.sessions(1, 77));
            if (part < 2) {
                undone("a row", x, y -> y.rows(1));
                x.rows(part + 1);
            }
        }
        undone("walk", x, y -> y.walk());
        undone("a session from the last row", x, y -> y.sessions(1, 3));
        x.rows(0);
        int refused = x.status(1);
        x.undo();
        CHECKS.due("\"not UNDONE\": status", x.status(1), refused);
    }

    /** Part 2: "the latest 40 can be UNDONE one by one". */
    private static void fortyActs() {
        for (int acts = 38; acts <= 43; acts++) {
            SledgeVote x = Checks.of("m");
            for (int i = 0; i < acts; i++) {
                x.lean(0, i % 2 * 2);
            }
            int can = Math.min(acts, 40);
            CHECKS.due("of " + acts, x.count(13), can);
            for (int left = can - 1; left >= 0; left--) {
                CHECKS.due("undo()", x.undo(), left);
                int stand = acts - can + left;
                CHECKS.due("lean behind " + stand, x.member(0, 1), stand == 0 ? 1 : (stand + 1) % 2 * 2);
            }
            CHECKS.due("no more of " + acts, x.undo(), NONE);
            CHECKS.due("none", x.count(13), 0);
        }
        SledgeVote x = Checks.of("sr20;m");
        x.rows(20);
        x.walk();
        x.rows(20);
        CHECKS.due("41: the first row can't be undone", x.count(13), 40);
        while (x.count(13) > 0) {
            x.undo();
        }
        CHECKS.due("behind the first row", x.count(5) * 100 + x.count(12) * 10 + x.count(8), 110);
        CHECKS.due("what is done then can be undone", x.rows(1) * 10 + x.count(13), 21);
    }

    private static void fortySessions() {
        SledgeVote x = Checks.of("sr20g60;m;m;m");
        SledgeVote first = Checks.of("sr20g60;m;m;m");
        x.sessions(1, 500);
        first.sessions(1, 500);
        x.sessions(20, 3);
        CHECKS.due("21 acts", x.count(13), 21);
        x.sessions(20, 4);
        CHECKS.due("forty acts of 41", x.count(13), 40);
        for (int left = 39; left >= 0; left--) {
            CHECKS.due("undo()", x.undo(), left);
            CHECKS.due("sessions", x.count(8), left);
        }
        CHECKS.due("no more", x.undo(), NONE);
        first.image();
        first.back();
        String unlike = Whole.unlike(Whole.of(x), Whole.of(first));
        CHECKS.due("as behind the first: " + unlike, unlike.isEmpty(), true);
    }

    /** As many rows as a hundred sessions have: the latest forty undone, the log is that of the first sixty. */
    private static void twoThousandRows() {
        SledgeVote x = Checks.of("sr20g9;mw1;mw2;mw4;mw8");
        SledgeVote y = Checks.of("sr20g9;mw1;mw2;mw4;mw8");
        Checks.law(x, "y:w+r");
        Checks.law(y, "y:w+r");
        x.dogs(5);
        y.dogs(5);
        for (int seed = 0; seed < 5; seed++) {
            x.sessions(20, seed);
            if (seed < 3) {
                y.sessions(20, seed);
            }
        }
        CHECKS.due("log", x.count(12), 60);
        while (x.count(13) > 0) {
            x.undo();
        }
        y.image();
        y.back();
        String unlike = Whole.unlike(Whole.of(x), Whole.of(y));
        CHECKS.due("as behind sixty: " + unlike, unlike.isEmpty(), true);
        for (int seed = 0; seed < 400; seed++) {
            x.sessions(20, seed);
            y.sessions(20, seed);
            x.image();
            x.back();
        }
        unlike = Whole.unlike(Whole.of(x), Whole.of(y).replace("count 13 is 40", "count 13 is 0"));
        CHECKS.due("with images between or without: " + unlike, unlike.isEmpty(), true);
    }

    /** Twenty rows with sums 1 .. 20, then as many to the left. */
    private static SledgeVote rising() {
        SledgeVote x = Checks.of("sr20g60;ml2");
        Checks.law(x, "y:r+1");
        return x;
    }

    /** Part 2: "the latest 60"; promise 21. */
    private static void sixtyRows() {
        SledgeVote x = rising();
        CHECKS.due("no row", x.log(0, 1), HIDDEN);
        for (int row = 1; row <= 100; row++) {
            if (x.count(5) == 20) {
                x.walk();
                x.lean(0, x.member(0, 1) == 2 ? 0 : 2);
            }
            x.rows(1);
            int length = Math.min(row, 60);
            CHECKS.due("how long behind " + row, x.count(12), length);
            CHECKS.due("the latest", x.log(0, 1), sumOfRow(row));
            CHECKS.due("the oldest behind " + row, x.log(length - 1, 1), sumOfRow(row - length + 1));
            CHECKS.due("ahead of it", x.log(length, 1), HIDDEN);
        }
        for (int i = 0; i < 60; i++) {
            CHECKS.due("log(" + i + ", 1)", x.log(i, 1), sumOfRow(100 - i));
        }
        for (int wrong : new int[] {-1, 60, 61, Integer.MIN_VALUE, Integer.MAX_VALUE}) {
            CHECKS.due("log(" + wrong + ", 0)", x.log(wrong, 0), HIDDEN);
        }
        for (int wrong : new int[] {-1, 3, Integer.MIN_VALUE, Integer.MAX_VALUE}) {
            CHECKS.due("log(0, " + wrong + ")", x.log(0, wrong), HIDDEN);
        }
    }

    private static int sumOfRow(int row) {
        int sum = (row - 1) % 20 + 1;
        return (row - 1) / 20 % 2 == 0 ? sum : -sum;
    }

    /** "(LOG, too)": what the sixty-first row drove out is there again. */
    private static void sixtyRowsUndone() {
        SledgeVote x = rising();
        for (int row = 1; row <= 75; row++) {
            if (x.count(5) == 20) {
                x.walk();
                x.lean(0, x.member(0, 1) == 2 ? 0 : 2);
            }
            x.rows(1);
        }
        for (int row = 74; row >= 61; row--) {
            x.undo();
            CHECKS.due("how long", x.count(12), 60);
            CHECKS.due("the latest of " + row, x.log(0, 1), sumOfRow(row));
            CHECKS.due("the oldest of " + row, x.log(59, 1), sumOfRow(row - 59));
        }
        x.undo();
        x.undo();
        x.undo();
        CHECKS.due("sixty, the walk back and the lean undone", x.count(12) * 100 + x.count(5), 6020);
        CHECKS.due("its first", x.log(59, 1), 1);
        x.undo();
        CHECKS.due("59", x.count(12), 59);
        CHECKS.due("its first", x.log(58, 1), 1);
        CHECKS.due("no more", x.log(59, 1), HIDDEN);
    }

    private static void logOfSessions() {
        SledgeVote x = Checks.of("sr20g60;mw1;mw2;mw4");
        for (int n = 1; n <= 5; n++) {
            x.sessions(1, n);
            CHECKS.due("log of sessions", x.count(12), Math.min(60, 20 * n));
            CHECKS.due("its sum", x.log(0, 1), x.sum());
        }
        for (int n = 4; n >= 0; n--) {
            x.undo();
            CHECKS.due("log of sessions", x.count(12), Math.min(60, 20 * n));
        }
    }

    /** Promise 17: "0 .. 9; 0 at first". */
    private static void dogs() {
        SledgeVote x = new SledgeVote();
        CHECKS.due("at first", x.count(9), 0);
        for (int v = -2; v <= 11; v++) {
            int before = x.count(9);
            boolean fine = v >= 1 && v <= 9;
            CHECKS.due("dogs(" + v + ")", x.dogs(v), fine);
            CHECKS.due("count(9)", x.count(9), fine ? v : before);
            CHECKS.due("again", x.dogs(v), false);
        }
        CHECKS.due("none again", x.dogs(0), true);
        CHECKS.due("count(9)", x.count(9), 0);
    }

    private static final BigInteger ROUND = BigInteger.TWO.pow(64);

    /** Draws by numbers that do not go round by themselves. */
    private static int[] drawn(long seed, int... of) {
        BigInteger x = BigInteger.valueOf(seed).mod(ROUND);
        int[] drawn = new int[of.length];
        for (int i = 0; i < of.length; i++) {
            x = x.multiply(new BigInteger("6364136223846793005")).add(new BigInteger("1442695040888963407")).mod(ROUND);
            drawn[i] = x.shiftRight(33).mod(BigInteger.valueOf(of[i])).intValue();
        }
        return drawn;
    }

    /** Part 4: the draws of each session, one behind the other, for one to six members. */
    private static void draws() {
        for (int members = 1; members <= 6; members++) {
            SledgeVote x = new SledgeVote();
            x.dogs(9);
            int[] of = new int[members + 3];
            java.util.Arrays.fill(of, members);
            java.util.Arrays.fill(of, 0, members, 3);
            of[members] = 10;
            for (long seed = -40; seed < 40; seed++) {
                Checks.canton(x, "sr1" + ";m".repeat(members));
                int[] drawn = drawn(seed, of);
                x.sessions(1, seed);
                boolean change = drawn[members] < 9;
                for (int m = 0; m < members; m++) {
                    CHECKS.due("lean of " + m, x.member(m, 1), drawn[m]);
                    int one = drawn[members + 1];
                    int other = drawn[members + 2];
                    int seat = !change ? m : m == one ? other : m == other ? one : m;
                    CHECKS.due("seat of " + m + " of " + members + " by " + seed, x.member(m, 4), seat);
                }
            }
        }
    }

    /** Part 4: "a draw of 10 below DOGS": each draw with each number of dogs. */
    private static void drawBelowDogs() {
        int tried = 0;
        for (int want = 0; want < 10; want++) {
            long seed = 0;
            int[] drawn = drawn(seed, 3, 3, 3, 10, 3, 3);
            while (drawn[3] != want || drawn[4] == drawn[5]) {
                seed++;
                drawn = drawn(seed, 3, 3, 3, 10, 3, 3);
            }
            for (int dogs = 0; dogs <= 9; dogs++) {
                SledgeVote x = Checks.of("sr1;m;m;m");
                x.dogs(dogs);
                x.sessions(1, seed);
                boolean changed = x.member(0, 4) != 0 || x.member(1, 4) != 1;
                CHECKS.due("a draw of " + want + " with dogs " + dogs, changed, want < dogs);
                int[] next = want < dogs ? drawn(seed, 3, 3, 3, 10, 3, 3, 3) : drawn(seed, 3, 3, 3, 10, 3);
                x = Checks.of("sr1;m;m;m");
                x.dogs(dogs);
                x.sessions(2, seed);
                CHECKS.due("the next session's first draw", x.member(0, 1), next[next.length - 1]);
                tried++;
            }
        }
        CHECKS.due("tried", tried, 100);
    }

    /** Part 4: "64 bits, going round"; "shifted right by 33, without sign". */
    private static void seeds() {
        long[] seeds = {0, 1, -1, Long.MIN_VALUE, Long.MAX_VALUE, Long.MIN_VALUE + 1, 1L << 33, -(1L << 33), 1L << 32,
            4294967295L, -1442695040888963407L, 6364136223846793005L};
        for (long seed : seeds) {
            SledgeVote x = Checks.of("sr1g1;m;m;m;m;m;m");
            x.sessions(20, seed);
            int[] of = new int[140];
            for (int i = 0; i < of.length; i++) {
                of[i] = i % 7 == 6 ? 10 : 3;
            }
            int[] drawn = drawn(seed, of);
            for (int m = 0; m < 6; m++) {
                CHECKS.due("lean of " + m + " by " + seed, x.member(m, 1), drawn[19 * 7 + m]);
            }
        }
    }

    /** Promise 18: "n (1 .. 20)"; the column. */
    private static void howManySessions() {
        for (int n = -1; n <= 22; n++) {
            SledgeVote x = Checks.of("sr2g1;mw2;mw3");
            boolean fine = n >= 1 && n <= 20;
            int column = x.sessions(n, 8);
            CHECKS.due("sessions(" + n + ")", column, fine ? x.count(6) : NONE);
            CHECKS.due("row", x.count(5), fine ? 2 : 0);
            CHECKS.due("sessions: the first has no walk back", x.count(8), fine ? n - 1 : 0);
            CHECKS.due("acts", x.count(13), fine ? n : 0);
            CHECKS.due("log", x.count(12), fine ? 2 * n : 0);
            CHECKS.due("the log's column", x.log(0, 0), fine ? column : HIDDEN);
            CHECKS.due("no status", x.status(0) + x.status(1) + x.status(4), 0);
        }
    }

    /** Part 4: "the WALK BACK, if it is at the last ROW". */
    private static void sessionOnTheWay() {
        SledgeVote x = Checks.of("sr3;bc2k9;mh0;mh9");
        x.rows(2);
        CHECKS.due("one fell", x.count(7), 2);
        x.sessions(1, 21);
        CHECKS.due("from row 2: no walk back", x.count(8) * 10 + x.count(12), 3);
        CHECKS.due("it is off all the same", x.count(7), 2);
        CHECKS.due("its lean was drawn", x.member(0, 1), drawn(21, 3)[0]);
        CHECKS.due("and that of the other one", x.member(1, 1), drawn(21, 3, 3)[1]);
        x.sessions(1, 22);
        CHECKS.due("from the last row: the walk back", x.count(8) * 10 + x.count(12), 16);
        x.walk();
        x.sessions(1, 23);
        CHECKS.due("from the top: no walk back of its own", x.count(8) * 10 + x.count(12), 29);
    }

    private static void sessionUndone() {
        SledgeVote x = Checks.of("sr3;bc2k9;mh0;mh9");
        x.dogs(9);
        x.rows(3);
        String before = Whole.of(x);
        x.sessions(20, 5);
        CHECKS.due("acts", x.count(13), 23);
        for (int left = 22; left >= 3; left--) {
            CHECKS.due("undo()", x.undo(), left);
        }
        String unlike = Whole.unlike(Whole.of(x), before);
        CHECKS.due("all as it was: " + unlike, unlike.isEmpty(), true);
    }

    /** Part 4: "An IMAGE keeps LEANS, HEELS, SEATS, who FELL, BUMPS, STRAW, ROW, COLUMN, SESSIONS, the LOG". */
    private static void imageKeeps() {
        SledgeVote x = Checks.of("sr3;bc2k5d1;br3c1;mw2l2;mw5h5;ml0h9");
        x.sessions(2, 6);
        x.walk();
        x.rows(1);
        CHECKS.due("image()", x.image(), 1);
        int acts = x.count(13);
        CHECKS.due("an image is no act", acts, 4);
        CHECKS.due("and takes none away", x.lean(0, x.member(0, 1) == 0 ? 2 : 0) >= 0 && x.undo() == acts, true);
        x.back();
        String image = Whole.of(x);
        Act[] done = {y -> y.lean(2, y.member(2, 1) == 1 ? 0 : 1), y -> y.heel(0), y -> y.change(0, 2),
            y -> y.strew(1), y -> y.rows(1), y -> y.rows(2), y -> y.sessions(1, 1), y -> y.sessions(20, 2), y -> y.rows(2) + y.walk()};
        for (Act act : done) {
            act.on(x);
            CHECKS.due("something was done", Whole.unlike(image, Whole.of(x)).isEmpty(), false);
            CHECKS.due("back()", x.back(), 1);
            String unlike = Whole.unlike(Whole.of(x), image);
            CHECKS.due("they are so again: " + unlike, unlike.isEmpty(), true);
            CHECKS.due("\"no ACT can be UNDONE then\"", x.undo(), NONE);
        }
        x.heel(0);
        CHECKS.due("what is done then can be undone", x.undo(), 0);
    }

    /** Promise 40: "instead of the one ahead"; promise 41: "no IMAGE of this CANTON". */
    private static void imageInstead() {
        SledgeVote x = Checks.of("sr5;m");
        CHECKS.due("none yet", x.back(), NONE);
        CHECKS.due("at the top", x.image(), 0);
        x.rows(2);
        CHECKS.due("in row 2", x.image(), 2);
        x.rows(3);
        CHECKS.due("the later one", x.back(), 2);
        CHECKS.due("and again", x.back(), 2);
        x.rows(3);
        CHECKS.due("at the last row", x.image(), 5);
        x.walk();
        CHECKS.due("the latest", x.back(), 5);
        CHECKS.due("its sessions", x.count(8), 0);
        Checks.put(x, "m;m;");
        CHECKS.due("a text that is refused", x.text(0), NONE);
        CHECKS.due("the image is there", x.back(), 5);
        x.end(3);
        CHECKS.due("another canton", x.text(0), 2);
        CHECKS.due("no image of it", x.back(), NONE);
        CHECKS.due("nothing came back", x.count(5), 0);
        CHECKS.due("one of this", x.image(), 0);
        CHECKS.due("back()", x.back(), 0);
    }

    private static void imageOfSixty() {
        SledgeVote x = rising();
        for (int i = 0; i < 3; i++) {
            x.rows(20);
            x.walk();
        }
        x.rows(5);
        x.image();
        String image = Whole.of(x);
        for (int times = 0; times < 3; times++) {
            x.rows(15);
            x.sessions(20, times);
            CHECKS.due("back()", x.back(), 5);
            CHECKS.due("a log of sixty", x.count(12), 60);
            CHECKS.due("its latest", x.log(0, 1), 5);
            CHECKS.due("its oldest", x.log(59, 1), 6);
            String unlike = Whole.unlike(Whole.of(x), image.replace("count 13 is 40", "count 13 is 0"));
            CHECKS.due("all so again: " + unlike, unlike.isEmpty(), true);
        }
        x.rows(1);
        CHECKS.due("it goes on behind it", x.log(0, 1) * 100 + x.log(59, 1), 607);
        x.undo();
        CHECKS.due("and is undone", x.log(0, 1) * 100 + x.log(59, 1), 506);
    }

    /** What an image does not keep: LAWS, which holds, DOGS, SEEN, STATUS, the TAPE. */
    private static void backLeaves() {
        SledgeVote x = Checks.of("m;m");
        x.image();
        Checks.law(x, "y:9");
        x.dogs(6);
        x.seen(1, 1, false);
        x.heel(7);
        Checks.put(x, "abc");
        x.back();
        CHECKS.due("laws and which holds", x.count(2) * 10 + x.count(4), 10);
        CHECKS.due("dogs", x.count(9), 6);
        CHECKS.due("seen", x.count(10), 1);
        CHECKS.due("status", x.status(0), 1);
        CHECKS.due("the tape", x.count(3), 3);
        CHECKS.due("push by the law", x.member(0, 6), 9);
    }

    /** Promise 42: "HIDDEN for others". */
    private static void counts() {
        SledgeVote x = new SledgeVote();
        for (int what = -3; what <= 17; what++) {
            int due = what < 0 || what > 13 ? HIDDEN : what == 4 ? NONE : 0;
            CHECKS.due("count(" + what + ") of a new one", x.count(what), due);
        }
        Checks.canton(x, "sw9o8r20;ir19;ir0;b;br20c8;m;m;m;m;m;m");
        Checks.law(x, "y:w");
        Checks.put(x, "m");
        x.dogs(9);
        x.seen(20, 8, true);
        x.sessions(20, 5);
        x.walk();
        int[] due = {6, 2, 1, 1, 0, 0, 8, 63, 20, 9, 1, 1 << 19 | 1, 60, 21};
        for (int what = 0; what < 14; what++) {
            CHECKS.due("count(" + what + ")", x.count(what), due[what]);
        }
    }
}
