import java.util.NoSuchElementException;

/** Promises 6 to 21 and 40 to 42: how it is, what is done by hand and by draws, undone and kept. */
public final class HandTest {
    private static final Checks CHECKS = new Checks("HandTest");
    /**
     * Rows 0 .. 2: 2 + 4 - 3 = 3 is below the grip; 6 on the ice: to column 3, where the bump throws the first
     * and the third off and it to column 4; the second alone pushes 4, and a bump throws it back to column 3.
     */
    static final String CANTON = "sw5o2g4r6y1;br2c3k4d1;br3c4k2d0;ir1;mw2l2h3s4;mw4l2h5s1;mw3l0h0s0";

    public static void main(String[] args) {
        told();
        noSuchMember();
        goingDown();
        sums();
        edges();
        leaning();
        changing();
        heels();
        strewing();
        rowsGoBy();
        walking();
        dogs();
        sessions();
        statusOfSeveral();
        undoing();
        undoingTheLog();
        images();
        counts();
        CHECKS.finish();
    }

    private static void told() {
        SledgeVote x = Checks.of(CANTON);
        int[] rules = {5, 2, 4, 6, 1};
        for (int what = -1; what < 6; what++) {
            CHECKS.due("rule(" + what + ")", x.rule(what), what < 0 || what > 4 ? -1 : rules[what]);
        }
        int[][] bumps = {{2, 3, 4, 1, 0}, {3, 4, 2, 0, 0}};
        for (int b = -1; b < 3; b++) {
            for (int what = -1; what < 6; what++) {
                boolean none = b < 0 || b > 1 || what < 0 || what > 4;
                CHECKS.due("bump(" + b + ", " + what + ")", x.bump(b, what), none ? -1 : bumps[b][what]);
            }
        }
        int[][] members = {{2, 2, 3, 4, 0, 1, 2}, {4, 2, 5, 1, 1, 1, 4}, {3, 0, 0, 0, 2, 1, 3}};
        for (int m = 0; m < 3; m++) {
            for (int what = 0; what < 7; what++) {
                CHECKS.due("member(" + m + ", " + what + ")", x.member(m, what), members[m][what]);
            }
        }
    }

    private static boolean isThere(SledgeVote x, int member, int what) {
        try {
            x.member(member, what);
            return true;
        } catch (NoSuchElementException none) {
            return false;
        }
    }

    private static void noSuchMember() {
        SledgeVote x = new SledgeVote();
        CHECKS.due("no canton", isThere(x, 0, 0), false);
        Checks.canton(x, "m;m");
        CHECKS.due("member(1, 6)", isThere(x, 1, 6), true);
        CHECKS.due("member(2, 0)", isThere(x, 2, 0), false);
        CHECKS.due("member(-1, 0)", isThere(x, -1, 0), false);
        CHECKS.due("member(0, -1)", isThere(x, 0, -1), false);
        CHECKS.due("member(0, 7)", isThere(x, 0, 7), false);
        CHECKS.due("no status", x.status(0), 0);
    }

    private static void goingDown() {
        SledgeVote x = Checks.of(CANTON);
        int[] columns = {2, 4, 3, 4, 4, 4};
        int[] sums = {3, 6, 4, 4, 4, 4};
        int[] fell = {0, 5, 0, 0, 0, 0};
        for (int row = 0; row < 6; row++) {
            CHECKS.due("sum() in row " + row, x.sum(), sums[row]);
            CHECKS.due("column of row " + row, x.rows(1), columns[row]);
            CHECKS.due("count(5)", x.count(5), row + 1);
            CHECKS.due("count(6)", x.count(6), columns[row]);
            CHECKS.due("count(7)", x.count(7), row == 0 ? 7 : 2);
            CHECKS.due("count(12)", x.count(12), row + 1);
            CHECKS.due("log(0, 0)", x.log(0, 0), columns[row]);
            CHECKS.due("log(0, 1)", x.log(0, 1), sums[row]);
            CHECKS.due("log(0, 2)", x.log(0, 2), fell[row]);
            CHECKS.due("log of the first row", x.log(row, 1), 3);
            CHECKS.due("log ahead of it", x.log(row + 1, 1), SledgeVote.HIDDEN);
        }
        CHECKS.due("log(-1, 0)", x.log(-1, 0), SledgeVote.HIDDEN);
        CHECKS.due("log(0, 3)", x.log(0, 3), SledgeVote.HIDDEN);
        CHECKS.due("log(0, -1)", x.log(0, -1), SledgeVote.HIDDEN);
        CHECKS.due("off the sledge", x.member(0, 5), 0);
        CHECKS.due("on it", x.member(1, 5), 1);
        CHECKS.due("the push of one off it", x.member(0, 6), 2);
    }

    private static void sums() {
        SledgeVote x = new SledgeVote();
        CHECKS.due("no canton", x.sum(), SledgeVote.HIDDEN);
        Checks.canton(x, "sg60r2;ir2;mw9l0;mw2l2;mw8");
        CHECKS.due("to the left", x.sum(), -7);
        x.rows(2);
        CHECKS.due("at the last row, which has ice", x.sum(), -14);
        Checks.law(x, "y:200");
        CHECKS.due("pushes are 99 at most", x.sum(), 0);
        x.lean(0, 1);
        CHECKS.due("one of 99, on ice", x.sum(), 198);
        Checks.law(x, "y:n*10+r");
        CHECKS.due("by the law", x.sum(), 64);
    }

    private static int columnAfterOne(String canton) {
        return Checks.of(canton).rows(1);
    }

    private static void edges() {
        CHECKS.due("with grip", columnAfterOne("sg3;ml2"), 3);
        CHECKS.due("less than grip", columnAfterOne("sg4;ml2"), 2);
        CHECKS.due("less grip", columnAfterOne("sg3;ml0"), 1);
        CHECKS.due("more than less grip", columnAfterOne("sg4;ml0"), 2);
        CHECKS.due("no column to the right", columnAfterOne("so4g1;ml2"), 4);
        CHECKS.due("no column to the left", columnAfterOne("so0g1;ml0"), 0);
        CHECKS.due("to the leftmost", columnAfterOne("so1g1;ml0"), 0);
        CHECKS.due("to the rightmost", columnAfterOne("so3g1;ml2"), 4);
        CHECKS.due("thrown left where there is none", columnAfterOne("so0;b;m"), 0);
        CHECKS.due("thrown right where there is none", columnAfterOne("so4;bc4d1;m"), 4);
        CHECKS.due("thrown to the left", columnAfterOne("bc2;m"), 1);
        CHECKS.due("thrown to the right", columnAfterOne("bc2d1;m"), 3);
        CHECKS.due("a bump in the column to which it is thrown", columnAfterOne("bc2d1;bc3d1;m"), 3);
        CHECKS.due("a bump in another row", columnAfterOne("br2c2;m"), 2);
        SledgeVote x = Checks.of("bc2k3;mh2;mh3;mh4");
        x.rows(1);
        CHECKS.due("heels below the kick fall", x.log(0, 2), 1);
        CHECKS.due("the others stay", x.count(7), 6);
        x = Checks.of("bc2k9;mh8;mh9");
        x.rows(1);
        CHECKS.due("nine stays", x.count(7), 2);
    }

    private static void leaning() {
        SledgeVote x = Checks.of("bc2k9;m;ml2");
        CHECKS.due("lean(0, 2)", x.lean(0, 2), 1);
        CHECKS.due("lean(0, 0)", x.lean(0, 0), 2);
        CHECKS.due("lean now", x.member(0, 1), 0);
        CHECKS.due("of the other", x.member(1, 1), 2);
        CHECKS.due("it is so", x.lean(0, 0), -1);
        CHECKS.due("status(2)", x.status(2), 1);
        CHECKS.due("out of bounds", x.lean(0, 3) + x.lean(0, -1), -2);
        CHECKS.due("status(1)", x.status(1), 2);
        CHECKS.due("no such one", x.lean(2, 3) + x.lean(-1, 0), -2);
        CHECKS.due("status(0)", x.status(0), 2);
        CHECKS.due("acts", x.count(13), 2);
        x.rows(1);
        CHECKS.due("one who fell", x.lean(1, 0), 2);
    }

    private static void changing() {
        SledgeVote x = Checks.of("bc2k9;mh9;m;mh9");
        CHECKS.due("change(0, 2)", x.change(0, 2), 2);
        CHECKS.due("change(1, 0)", x.change(1, 0), 2);
        CHECKS.due("seats", x.member(0, 4) * 100 + x.member(1, 4) * 10 + x.member(2, 4), 120);
        CHECKS.due("alike", x.change(1, 1), -1);
        CHECKS.due("status(2)", x.status(2), 1);
        CHECKS.due("no such ones", x.change(0, 3) + x.change(3, 0) + x.change(-1, -1), -3);
        CHECKS.due("status(0)", x.status(0), 3);
        x.rows(1);
        CHECKS.due("with one who fell", x.change(1, 2), 0);
        CHECKS.due("acts", x.count(13), 4);
    }

    private static void heels() {
        SledgeVote x = Checks.of("mh7;m");
        CHECKS.due("heel(0)", x.heel(0), 8);
        CHECKS.due("heel(0)", x.heel(0), 9);
        CHECKS.due("nine", x.heel(0), -1);
        CHECKS.due("status(2)", x.status(2), 1);
        CHECKS.due("heels now", x.member(0, 2) * 10 + x.member(1, 2), 93);
        CHECKS.due("no such one", x.heel(2), -1);
        CHECKS.due("status(0)", x.status(0), 1);
        CHECKS.due("acts", x.count(13), 2);
    }

    private static void strewing() {
        SledgeVote x = Checks.of("sy2;bc2;br2;br3;m");
        CHECKS.due("strew(0)", x.strew(0), 1);
        CHECKS.due("bump(0, 4)", x.bump(0, 4), 1);
        CHECKS.due("it is", x.strew(0), -1);
        CHECKS.due("status(2)", x.status(2), 1);
        CHECKS.due("strew(2)", x.strew(2), 0);
        CHECKS.due("no straw", x.strew(1), -1);
        CHECKS.due("status(3)", x.status(3), 1);
        CHECKS.due("it is, ahead of no straw", x.strew(2), -1);
        CHECKS.due("status(2)", x.status(2), 2);
        CHECKS.due("no such one", x.strew(3), -1);
        CHECKS.due("status(0)", x.status(0), 1);
        CHECKS.due("rule(4)", x.rule(4), 0);
        CHECKS.due("bump(1, 4)", x.bump(1, 4), 0);
        CHECKS.due("it is not thrown", x.rows(1), 2);
        CHECKS.due("nobody fell", x.count(7), 1);
    }

    private static void rowsGoBy() {
        SledgeVote x = new SledgeVote();
        CHECKS.due("no canton", x.rows(0), -1);
        CHECKS.due("status(0)", x.status(0), 1);
        Checks.canton(x, "sr20g3w9;ml2");
        CHECKS.due("rows(0), (-1), (21)", x.rows(0) + x.rows(-1) + x.rows(21), -3);
        CHECKS.due("status(1)", x.status(1), 3);
        CHECKS.due("rows(3)", x.rows(3), 5);
        CHECKS.due("beyond the last one", x.rows(18), -1);
        CHECKS.due("status(4)", x.status(4), 1);
        CHECKS.due("nothing went by", x.count(5), 3);
        CHECKS.due("rows(17)", x.rows(17), 8);
        CHECKS.due("acts", x.count(13), 20);
        x.walk();
        CHECKS.due("rows(20)", x.rows(20), 8);
        CHECKS.due("acts", x.count(13), 40);
        CHECKS.due("at the last row", x.rows(1), -1);
        CHECKS.due("status(4)", x.status(4), 2);
    }

    private static void walking() {
        SledgeVote x = new SledgeVote();
        CHECKS.due("no canton", x.walk(), -1);
        CHECKS.due("status(0)", x.status(0), 1);
        Checks.canton(x, CANTON);
        CHECKS.due("not there yet", x.walk(), -1);
        x.rows(5);
        CHECKS.due("not there yet", x.walk(), -1);
        CHECKS.due("status(4)", x.status(4), 2);
        x.rows(1);
        x.lean(0, 0);
        x.heel(2);
        x.change(0, 2);
        x.strew(1);
        CHECKS.due("walk()", x.walk(), 1);
        CHECKS.due("row, column, all on it", x.count(5) * 100 + x.count(6) * 10 + x.count(7), 27);
        CHECKS.due("leans, heels and seats stay", x.member(0, 1) * 100 + x.member(2, 2) * 10 + x.member(0, 4), 12);
        CHECKS.due("what is strewn stays", x.bump(1, 4) * 10 + x.rule(4), 10);
        CHECKS.due("the log stays", x.count(12), 6);
        CHECKS.due("sessions", x.count(8), 1);
        x.rows(6);
        CHECKS.due("walk()", x.walk(), 2);
    }

    private static void dogs() {
        SledgeVote x = new SledgeVote();
        CHECKS.due("dogs(0)", x.dogs(0), false);
        CHECKS.due("dogs(-1)", x.dogs(-1), false);
        CHECKS.due("dogs(10)", x.dogs(10), false);
        CHECKS.due("dogs(9)", x.dogs(9), true);
        CHECKS.due("dogs(9)", x.dogs(9), false);
        CHECKS.due("count(9)", x.count(9), 9);
        CHECKS.due("dogs(0)", x.dogs(0), true);
        CHECKS.due("no status", x.status(1) + x.status(2), 0);
    }

    /** Draws, by numbers that are not held in 64 bits. */
    private static int[] draws(long seed, int... of) {
        java.math.BigInteger x = java.math.BigInteger.valueOf(seed);
        int[] drawn = new int[of.length];
        for (int i = 0; i < of.length; i++) {
            x = x.multiply(java.math.BigInteger.valueOf(6364136223846793005L))
                .add(java.math.BigInteger.valueOf(1442695040888963407L)).mod(java.math.BigInteger.TWO.pow(64));
            drawn[i] = x.divide(java.math.BigInteger.TWO.pow(33)).mod(java.math.BigInteger.valueOf(of[i])).intValue();
        }
        return drawn;
    }

    private static void sessions() {
        SledgeVote x = new SledgeVote();
        CHECKS.due("no canton", x.sessions(1, 7), -1);
        Checks.canton(x, "sr3g60;m;m;m");
        CHECKS.due("out of bounds", x.sessions(0, 7) + x.sessions(21, 7) + x.sessions(-1, 7), -3);
        CHECKS.due("no status", x.status(0) + x.status(1), 0);
        for (long seed : new long[] {0, 1, -1, 123456789, Long.MIN_VALUE, Long.MAX_VALUE}) {
            Checks.canton(x, "sr3g60;m;m;m");
            int[] drawn = draws(seed, 3, 3, 3, 10, 3, 3, 3, 10);
            CHECKS.due("sessions(1)", x.sessions(1, seed), 2);
            for (int m = 0; m < 3; m++) {
                CHECKS.due("lean of " + m, x.member(m, 1), drawn[m]);
            }
            CHECKS.due("sessions, log, acts", x.count(8) * 100 + x.count(12) * 10 + x.count(13), 31);
            Checks.canton(x, "sr3g60;m;m;m");
            x.rows(1);
            x.sessions(2, seed);
            for (int m = 0; m < 3; m++) {
                CHECKS.due("lean of " + m, x.member(m, 1), drawn[4 + m]);
            }
            CHECKS.due("sessions, log, acts", x.count(8) * 100 + x.count(12) * 10 + x.count(13), 163);
        }
        Checks.canton(x, "sr1;m");
        CHECKS.due("sessions(20)", x.sessions(20, 9), x.count(6));
        CHECKS.due("sessions, log, acts", x.count(8) * 10000 + x.count(12) * 100 + x.count(13), 192020);
        sessionsWithDogs(x);
    }

    private static void sessionsWithDogs(SledgeVote x) {
        x.dogs(5);
        int changed = 0;
        for (long seed = 0; seed < 60; seed++) {
            Checks.canton(x, "sr1;m;m;m;m");
            int[] drawn = draws(seed, 3, 3, 3, 3, 10, 4, 4, 3, 3, 3, 3);
            boolean change = drawn[4] < 5;
            x.sessions(1, seed);
            for (int m = 0; m < 4; m++) {
                int seat = !change ? m : m == drawn[5] ? drawn[6] : m == drawn[6] ? drawn[5] : m;
                CHECKS.due("seat of " + m + " by " + seed, x.member(m, 4), seat);
            }
            changed += change ? 1 : 0;
            if (change) {
                Checks.canton(x, "sr1;m;m;m;m");
                x.sessions(2, seed);
                CHECKS.due("the draws go on", x.member(0, 1), drawn[7]);
            }
        }
        CHECKS.due("some changed, some did not", changed > 10 && changed < 50, true);
    }

    private static void statusOfSeveral() {
        SledgeVote x = Checks.of("sr5y0;b;m");
        x.lean(5, 9);
        CHECKS.due("no such one is the first", x.status(0) * 10 + x.status(1), 10);
        x.lean(0, 9);
        x.rows(30);
        CHECKS.due("bounds ahead of the place", x.status(1) * 10 + x.status(4), 20);
        x.strew(0);
        CHECKS.due("no straw", x.status(3), 1);
        CHECKS.due("status(-1)", x.status(-1), -1);
        CHECKS.due("status(5)", x.status(5), -1);
        x.lean(0, 0);
        x.undo();
        CHECKS.due("not undone", x.status(0) + x.status(1) + x.status(3), 4);
    }

    private static void undoing() {
        SledgeVote x = Checks.of(CANTON);
        CHECKS.due("none", x.undo(), -1);
        x.lean(0, 0);
        x.change(0, 2);
        x.heel(1);
        x.strew(0);
        x.rows(6);
        x.walk();
        CHECKS.due("acts", x.count(13), 11);
        CHECKS.due("the walk", x.undo(), 10);
        CHECKS.due("it is at the last row", x.count(5) * 10 + x.count(8), 60);
        for (int row = 5; row >= 0; row--) {
            CHECKS.due("a row", x.undo(), 4 + row);
            CHECKS.due("count(5), count(12)", x.count(5) * 10 + x.count(12), row * 11);
        }
        CHECKS.due("straw", x.undo(), 3);
        CHECKS.due("not strewn", x.bump(0, 4) * 10 + x.rule(4), 1);
        CHECKS.due("heels", x.undo() * 10 + x.member(1, 2), 25);
        CHECKS.due("seats", x.undo() * 10 + x.member(0, 4), 10);
        CHECKS.due("lean", x.undo() * 10 + x.member(0, 1), 2);
        CHECKS.due("none", x.undo(), -1);
        x.rows(2);
        CHECKS.due("two fell", x.count(7), 2);
        x.undo();
        CHECKS.due("they are on it", x.count(7), 7);
        for (int i = 0; i < 45; i++) {
            x.lean(0, i % 2 == 0 ? 0 : 2);
        }
        CHECKS.due("forty at most", x.count(13), 40);
        for (int i = 39; i >= 0; i--) {
            CHECKS.due("undo()", x.undo(), i);
        }
        CHECKS.due("none", x.undo(), -1);
        CHECKS.due("five of 45 stay", x.member(0, 1), 0);
    }

    private static void undoingTheLog() {
        SledgeVote x = Checks.of("sr20g60;mw1l2;mw2l0;mw4l0");
        for (int i = 0; i < 50; i++) {
            x.sessions(1, i);
        }
        CHECKS.due("sixty at most", x.count(12), 60);
        CHECKS.due("log(60, 0)", x.log(60, 0), SledgeVote.HIDDEN);
        SledgeVote fresh = Checks.of("sr20g60;mw1l2;mw2l0;mw4l0");
        for (int i = 0; i < 10; i++) {
            fresh.sessions(1, i);
        }
        for (int i = 0; i < 40; i++) {
            x.undo();
        }
        CHECKS.due("no more", x.undo(), -1);
        for (int i = 0; i < 60; i++) {
            CHECKS.due("log(" + i + ", 1) is again as it was", x.log(i, 1), fresh.log(i, 1));
        }
        CHECKS.due("sessions", x.count(8), 9);
        x = Checks.of("sr20g60;mw1l2;mw2l0;mw4l0");
        x.sessions(4, 5);
        for (int left = 3; left >= 0; left--) {
            CHECKS.due("undo()", x.undo(), left);
            CHECKS.due("log", x.count(12), 20 * left);
        }
        CHECKS.due("as told", x.member(0, 1) * 100 + x.member(1, 1) * 10 + x.member(2, 1), 200);
    }

    private static void images() {
        SledgeVote x = new SledgeVote();
        CHECKS.due("no canton", x.image(), -1);
        CHECKS.due("no image", x.back(), -1);
        Checks.canton(x, CANTON);
        CHECKS.due("no image of this one", x.back(), -1);
        x.rows(2);
        CHECKS.due("image()", x.image(), 2);
        x.seen(1, 1, true);
        x.dogs(3);
        x.rows(4);
        x.walk();
        x.strew(0);
        x.heel(0);
        x.lean(0, 0);
        x.change(0, 1);
        for (int again = 0; again < 2; again++) {
            CHECKS.due("back()", x.back(), 2);
            CHECKS.due("row, column, who", x.count(5) * 100 + x.count(6) * 10 + x.count(7), 242);
            CHECKS.due("sessions, log, acts", x.count(8) * 100 + x.count(12) * 10 + x.count(13), 20);
            CHECKS.due("the log", x.log(0, 1) * 10 + x.log(1, 1), 63);
            CHECKS.due("straw", x.rule(4) * 10 + x.bump(0, 4), 10);
            CHECKS.due("heels, lean, seat", x.member(0, 2) * 100 + x.member(0, 1) * 10 + x.member(0, 4), 320);
            CHECKS.due("none can be undone", x.undo(), -1);
            CHECKS.due("seen and dogs stay", x.count(10) * 10 + x.count(9), 13);
            x.sessions(15, 3);
        }
        CHECKS.due("instead of the one ahead", x.image(), 6);
        int oldest = x.log(59, 1);
        x.sessions(20, 4);
        CHECKS.due("back()", x.back(), 6);
        CHECKS.due("a log of sixty", x.count(12), 60);
        CHECKS.due("its oldest", x.log(59, 1), oldest);
        CHECKS.due("its latest column", x.log(0, 0), x.count(6));
        Checks.canton(x, CANTON);
        CHECKS.due("none of another one", x.back(), -1);
    }

    private static void counts() {
        SledgeVote x = Checks.of(CANTON + ";ir19;ir3");
        int[] want = {3, 2, 0, 0, -1, 0, 2, 7, 0, 0, 0, 524298, 0, 0};
        for (int what = 0; what < 14; what++) {
            CHECKS.due("count(" + what + ")", x.count(what), want[what]);
        }
        CHECKS.due("count(14)", x.count(14), SledgeVote.HIDDEN);
        CHECKS.due("count(-1)", x.count(-1), SledgeVote.HIDDEN);
    }
}
