/** Promises 32 to 34: what was seen of the track, who was heavier, which row to look at. */
public final class TrackTest {
    private static final Checks CHECKS = new Checks("TrackTest");
    // By 3 more the first or the second pulls it to columns 5, 6, 7, the third to 3, 2, 1; else it stays in 4.
    private static final String CANTON = "sw9o4g3r3;mw1l2;mw2l2;mw3l0";

    public static void main(String[] args) {
        seen();
        who();
        whoAsTold();
        best();
        CHECKS.finish();
    }

    private static void seen() {
        SledgeVote x = new SledgeVote();
        CHECKS.due("no canton", x.seen(1, 0, true), -1);
        Checks.canton(x, CANTON);
        CHECKS.due("seen(0, 0)", x.seen(0, 0, true), -1);
        CHECKS.due("seen(21, 0)", x.seen(21, 0, true), -1);
        CHECKS.due("seen(1, 9)", x.seen(1, 9, true), -1);
        CHECKS.due("seen(1, -1)", x.seen(1, -1, true), -1);
        for (int i = 1; i <= 10; i++) {
            CHECKS.due("seen", x.seen(2 * i, i % 2 * 8, i % 2 == 0), i);
            CHECKS.due("count(10)", x.count(10), i);
        }
        CHECKS.due("there are ten", x.seen(1, 1, false), -1);
        CHECKS.due("no status", x.status(0) + x.status(1), 0);
        CHECKS.due("no acts", x.count(13), 0);
        Checks.canton(x, CANTON);
        CHECKS.due("gone", x.count(10), 0);
    }

    private static void all(SledgeVote x, int g, int... want) {
        CHECKS.due("who(" + g + ", NONE)", x.who(g, -1), want.length);
        for (int i = 0; i < want.length; i++) {
            CHECKS.due("who(" + g + ", " + i + ")", x.who(g, i), want[i]);
        }
        CHECKS.due("no such one", x.who(g, want.length), -1);
        CHECKS.due("no such one", x.who(g, -2), -1);
    }

    private static void who() {
        SledgeVote x = new SledgeVote();
        CHECKS.due("no canton", x.who(1, -1), -1);
        Checks.canton(x, CANTON);
        all(x, 3, 0, 1, 2, 9);
        CHECKS.due("who(0, -1)", x.who(0, -1), -1);
        CHECKS.due("who(6, -1)", x.who(6, -1), -1);
        x.seen(2, 6, true);
        all(x, 3, 0, 1);
        all(x, 5, 0, 1);
        all(x, 2);
        Checks.canton(x, CANTON);
        x.seen(2, 6, false);
        all(x, 3, 2, 9);
        x.seen(1, 4, true);
        all(x, 3, 9);
        all(x, 1, 0, 1, 2, 9);
        Checks.canton(x, CANTON);
        x.seen(20, 7, true);
        all(x, 3, 0, 1);
        x.seen(3, 7, false);
        all(x, 3);
        Checks.canton(x, "sw9o4g2r1;mw8l2;mw8l0");
        x.seen(1, 4, true);
        all(x, 5, 0, 1, 9);
        Checks.canton(x, "sw9o4g1r1;mw8l2;mw8l0");
        x.seen(1, 5, true);
        all(x, 5, 0);
    }

    /** What is done by hand does not matter, but for the law. */
    private static void whoAsTold() {
        SledgeVote x = Checks.of("sw9o4g3r3;br3c7k9d0;br1c4k9d1;mw1l2h0;mw2l2;mw3l0");
        x.seen(3, 6, true);
        all(x, 3, 0, 1);
        x.lean(0, 0);
        x.strew(0);
        x.heel(1);
        x.change(0, 2);
        x.rows(3);
        all(x, 3, 0, 1);
        Checks.law(x, "y:w*[1-p]");
        x = Checks.of(CANTON);
        Checks.law(x, "y:w*[1-p]");
        x.seen(1, 5, true);
        all(x, 2, 0);
        x.change(0, 2);
        x.walk();
        all(x, 2, 0);
    }

    private static void best() {
        SledgeVote x = new SledgeVote();
        CHECKS.due("no canton", x.best(1), -1);
        Checks.canton(x, CANTON);
        CHECKS.due("all rows alike: the first", x.best(3), 1);
        CHECKS.due("best(5)", x.best(5), 1);
        CHECKS.due("best(0)", x.best(0), -1);
        CHECKS.due("best(6)", x.best(6), -1);
        x.seen(1, 8, true);
        CHECKS.due("nothing fits", x.best(3), -1);
        Checks.canton(x, "sw9o4g4r3;ir1;mw1l2;mw1l0");
        CHECKS.due("row 2 tells them apart", x.best(2), 2);
        CHECKS.due("nothing tells them apart", x.best(1), 1);
        Checks.canton(x, "sw9o4g4r5;ir1;ir3;br2c5k1d0;mw1l2;mw1l0");
        CHECKS.due("row 2 tells one, row 4 tells both", x.best(2), 4);
        x.seen(4, 2, false);
        CHECKS.due("of the two that fit", x.best(2), 4);
        x.seen(2, 4, false);
        CHECKS.due("none fits", x.best(2), -1);
        Checks.canton(x, CANTON);
        x.seen(2, 2, true);
        CHECKS.due("one fits: any row tells", x.best(3), 1);
        // By columns 1 0 0 and 1 1 0.
        Checks.canton(x, "sw3o1g8r3;ir1;br3c1k1;mw1l0");
        CHECKS.due("the row between", x.best(3), 2);
        // By columns 8 8 8, 8 7 6, 6 5 4 and 7 7 7.
        Checks.canton(x, "sw9o7g2r3;mw1l2;mw2l2;mw3l0");
        Checks.law(x, "y:w=5&r>0?0;y:w");
        CHECKS.due("the last row tells all", x.best(3), 3);
        // By columns 0 0 0, 0 1 2, 2 3 4 and 1 1 1.
        Checks.canton(x, "sw9o1g2r3;mw1l0;mw2l0;mw3l2");
        CHECKS.due("the last row tells all", x.best(3), 3);
    }
}
