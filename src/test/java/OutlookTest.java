/**
 * Each sentence of the document that names a bound of what is told ahead and of the track: promises 22 to 39, part 3
 * of its terms. What stands in quotes are the document's words.
 */
public final class OutlookTest {
    private static final Checks CHECKS = new Checks("OutlookTest");
    private static final int NONE = SledgeVote.NONE;
    private static final int HIDDEN = SledgeVote.HIDDEN;
    private static final int ALL = 1000000000;

    public static void main(String[] args) {
        ends();
        ahead();
        turn();
        turnOfThoseOff();
        seating();
        seatingOfThoseOff();
        power();
        games();
        restsBounds();
        sight();
        seatsBack();
        knowsOffTheSledge();
        strawSets();
        strawStrewn();
        fewest();
        seen();
        whoBounds();
        whoFromTheTop();
        look();
        odds();
        oddsByNumbers();
        oddsFall();
        shares();
        most();
        stays();
        met();
        CHECKS.finish();
    }

    /** Promise 22: at the top, at the last row, with nobody on the sledge. */
    private static void ends() {
        SledgeVote x = Checks.of("sr1g3;ml2");
        CHECKS.due("column", x.ends(0), 3);
        CHECKS.due("side", x.ends(1), 2);
        CHECKS.due("nobody", x.ends(2), 0);
        x.rows(1);
        CHECKS.due("at the last row, as it is: column", x.ends(0), 3);
        CHECKS.due("at the last row, as it is: side", x.ends(1), 2);
        x = Checks.of("sr20w9o4g3;ml0");
        CHECKS.due("twenty rows", x.ends(0), 0);
        x = Checks.of("sr3g3;bc3k9d0;br3c4k5;ml2h0;ml2h9w9;m");
        CHECKS.due("who will have fallen", x.ends(2), 5);
        x.rows(1);
        CHECKS.due("\"in all\": who fell ahead, too", x.ends(2), 5);
        x.rows(2);
        CHECKS.due("\"in all\" at the last row", x.ends(2), 5);
        x = Checks.of("sr20;bc2k9;m;m;m;m;m;m");
        CHECKS.due("all six", x.ends(2), 63);
        x.rows(1);
        CHECKS.due("all six fell, it goes on", x.ends(0) * 100 + x.ends(2), 163);
        CHECKS.due("ends(-1)", x.ends(-1), NONE);
        CHECKS.due("ends(3)", x.ends(3), NONE);
    }

    /** Promise 23: "(0 .. 20; no further than the last one)". */
    private static void ahead() {
        for (int rows = 1; rows <= 20; rows++) {
            SledgeVote x = Checks.of("sw9o0g3r" + rows + ";ml2");
            for (int n = 0; n <= 20; n++) {
                CHECKS.due("ahead(" + n + ") of " + rows, x.ahead(n), Math.min(8, Math.min(n, rows)));
            }
            CHECKS.due("ahead(-1)", x.ahead(-1), NONE);
            CHECKS.due("ahead(21)", x.ahead(21), NONE);
            x.rows(rows);
            CHECKS.due("at the last row", x.ahead(0) * 10 + x.ahead(20), 11 * Math.min(8, rows));
        }
        SledgeVote x = Checks.of("sw9o0g3r5;ml2");
        x.rows(3);
        CHECKS.due("none", x.ahead(0), 3);
        CHECKS.due("one row", x.ahead(1), 4);
        CHECKS.due("to the last one", x.ahead(2), 5);
        CHECKS.due("beyond it", x.ahead(3), 5);
    }

    private static void turned(SledgeVote x, int side, int many, int row) {
        CHECKS.due("turn(" + side + ", 0)", x.turn(side, 0), many);
        CHECKS.due("turn(" + side + ", 1)", x.turn(side, 1), row);
    }

    /** Promise 24: "the fewest that are otherwise than now (of several the least row)", "there is none". */
    private static void turn() {
        for (int lean = 0; lean < 3; lean++) {
            SledgeVote x = Checks.of("sr1g3;ml" + lean);
            for (int side = 0; side < 3; side++) {
                turned(x, side, side == lean ? 0 : 1, side);
            }
            x.rows(1);
            for (int side = 0; side < 3; side++) {
                turned(x, side, side == lean ? 0 : NONE, side == lean ? lean : NONE);
            }
        }
        SledgeVote x = Checks.of("sr1g3;ml2;ml2;ml2;ml2;ml2;ml2");
        turned(x, 2, 0, 222222);
        turned(x, 1, 3, 222);
        turned(x, 0, 4, 22);
        x = Checks.of("sr1g3;ml0;ml0;ml0;ml0;ml0;ml0");
        turned(x, 0, 0, 0);
        turned(x, 1, 3, 222);
        turned(x, 2, 4, 1222);
        x = Checks.of("sr1g18;m;m;m;m;m;m");
        turned(x, 2, 6, 222222);
        turned(x, 0, 6, 0);
        turned(x, 1, 0, 111111);
        x = Checks.of("sr1g19;m;m;m;m;m;m");
        turned(x, 0, NONE, NONE);
        turned(x, 2, NONE, NONE);
        x = Checks.of("sw4o1r1g60;m");
        turned(x, 0, 0, 1);
        turned(x, 1, NONE, NONE);
        x = Checks.of("sr1g6;mw3;mw6;mw3");
        turned(x, 2, 1, 121);
        x = Checks.of("sr1g6;mw6;mw6;mw6");
        turned(x, 2, 1, 112);
        turned(x, 0, 1, 11);
        CHECKS.due("turn(-1, 0)", x.turn(-1, 0), NONE);
        CHECKS.due("turn(3, 0)", x.turn(3, 0), NONE);
        CHECKS.due("turn(2, -1)", x.turn(2, -1), NONE);
        CHECKS.due("turn(2, 2)", x.turn(2, 2), NONE);
    }

    /** Who is off the sledge turns nothing, and has a digit all the same. */
    private static void turnOfThoseOff() {
        SledgeVote x = Checks.of("sr2g3;bc2k5d1;mh0l0;mh9;mh0l2");
        x.rows(1);
        CHECKS.due("in column 3 with one", x.count(6) * 10 + x.count(7), 32);
        turned(x, 2, 0, 12);
        turned(x, 1, 1, 2);
        turned(x, 0, NONE, NONE);
        x = Checks.of("sr3g3;bc2k5d1;m;m");
        x.rows(1);
        CHECKS.due("nobody is on it", x.count(7), 0);
        turned(x, 2, 0, 11);
        turned(x, 1, NONE, NONE);
    }

    private static void seated(SledgeVote x, int side, int many, int row) {
        CHECKS.due("seating(" + side + ", 0)", x.seating(side, 0), many);
        CHECKS.due("seating(" + side + ", 1)", x.seating(side, 1), row);
    }

    /** Promise 25: the fewest who sit elsewhere, of several the least row; "NONE likewise". */
    private static void seating() {
        SledgeVote x = Checks.of("sr1g3;ml2");
        seated(x, 2, 0, 0);
        seated(x, 0, NONE, NONE);
        seated(x, 1, NONE, NONE);
        x.rows(1);
        seated(x, 2, 0, 0);
        seated(x, 0, NONE, NONE);
        x = Checks.of("sr1g3;m;m;m;m;m;m");
        seated(x, 1, 0, 12345);
        x.change(0, 5);
        seated(x, 1, 0, 512340);
        // Who sits last pushes: to the left by the first two, to the right by the others.
        x = Checks.of("sr1g3;ml0;ml0;m;ml2;ml2;ml2");
        Checks.law(x, "y:p=5?3;y:0");
        seated(x, 2, 0, 12345);
        seated(x, 0, 2, 52341);
        seated(x, 1, 2, 15342);
        x.rows(1);
        seated(x, 2, 0, 12345);
        seated(x, 0, NONE, NONE);
        x = Checks.of("sr1g9;ml2w1;ml0w2;mw3l2");
        Checks.law(x, "y:w=3&p=0|w=1&p=1|w=2&p=2?9;y:0");
        seated(x, 2, 2, 102);
        // Three must go round: the third to the front and the first to the seat behind.
        x = Checks.of("sr1g9;ml2w1;mw2;mw3l2");
        Checks.law(x, "y:w=3&p=0|w=1&p=1?5;y:0");
        seated(x, 2, 3, 201);
        CHECKS.due("seating(-1, 0)", x.seating(-1, 0), NONE);
        CHECKS.due("seating(3, 0)", x.seating(3, 0), NONE);
        CHECKS.due("seating(2, -1)", x.seating(2, -1), NONE);
        CHECKS.due("seating(2, 2)", x.seating(2, 2), NONE);
    }

    /** Who is off the sledge has a seat, which another one may take. */
    private static void seatingOfThoseOff() {
        SledgeVote x = Checks.of("sr2g3;bc2k5d1;mh0;mh9l0;mh0");
        Checks.law(x, "y:p=0?3;y:0");
        x.rows(1);
        CHECKS.due("in column 3 with one", x.count(6) * 10 + x.count(7), 32);
        seated(x, 2, 0, 12);
        seated(x, 1, 2, 102);
        seated(x, 0, NONE, NONE);
    }

    /** Promise 26: "of all sets of the other MEMBERS (those off the sledge, too)". */
    private static void power() {
        SledgeVote x = Checks.of("sr1g1;mw9;mw1;mw1;mw1;mw1;mw1");
        CHECKS.due("one rules over all 32 sets", x.power(0), 32);
        for (int m = 1; m < 6; m++) {
            CHECKS.due("nobody else does", x.power(m), 0);
        }
        CHECKS.due("power(6)", x.power(6), NONE);
        CHECKS.due("power(-1)", x.power(-1), NONE);
        x = Checks.of("sr1g1;m");
        CHECKS.due("alone: the one set of nobody", x.power(0), 1);
        CHECKS.due("power(1)", x.power(1), NONE);
        x = Checks.of("sr1g4;m");
        CHECKS.due("alone, too light", x.power(0), 0);
        x = Checks.of("sr1g18;m;m;m;m;m;m");
        CHECKS.due("all six are needed: two sets", x.power(0), 2);
        x = Checks.of("sr2g1;bc2k9d1;br2c3k1;br2c4d1;mh0;mh0;mh0;mh0;mh0;mh9");
        x.rows(1);
        CHECKS.due("sets of those off the sledge", x.power(5), 32);
        CHECKS.due("off the sledge itself", x.power(0), 0);
        x.rows(1);
        CHECKS.due("at the last row", x.power(5), 0);
        CHECKS.due("other columns, the same side", Checks.of("sw9o0r1g1;m").power(0), 0);
        CHECKS.due("over the porch", Checks.of("sw9o4r1g1;m").power(0), 1);
        CHECKS.due("from the porch or not", Checks.of("sw9o3r1g1;m").power(0), 1);
        CHECKS.due("no porch between", Checks.of("sw4o1r1g1;m").power(0), 1);
        // The leans now do not matter.
        x = Checks.of("sr1g1;ml0w2;ml2w1;m");
        int before = x.power(2);
        x.lean(0, 2);
        x.lean(1, 1);
        CHECKS.due("by leans of its own", x.power(2), before);
    }

    private static void game(SledgeVote x, int lean, int other, int one, int two) {
        CHECKS.due("game by " + lean + other + ", the one", x.game(0, 1, lean, other, 0), one);
        CHECKS.due("game by " + lean + other + ", the other", x.game(0, 1, lean, other, 1), two);
    }

    /** Promise 27: "6 .., less 1, if x, y of its own is not 1, less 2, if it will have FALLEN". */
    private static void games() {
        SledgeVote x = Checks.of("sr1g1;bc2k9;mh0l0;mh9");
        game(x, 1, 1, 4, 0);
        game(x, 0, 2, 3, -1);
        game(x, 0, 1, 5, 0);
        game(x, 1, 0, 6, -1);
        game(x, 2, 1, -1, 0);
        game(x, 2, 0, 3, -1);
        x.lean(0, 2);
        game(x, 1, 1, -2, 0);
        game(x, 0, 2, -3, -1);
        game(x, 1, 2, 6, -1);
        x = Checks.of("sr1g9;ml1;ml1");
        game(x, 1, 1, 6, 6);
        game(x, 0, 2, 5, 5);
        x.rows(1);
        game(x, 2, 2, 5, 5);
        x = Checks.of("sr1g9;ml0;ml2");
        game(x, 1, 1, 0, 0);
        CHECKS.due("the last two of six", Checks.of("sr1g9;m;m;m;m;m;m").game(5, 4, 1, 1, 0), 6);
        for (int what = 0; what < 2; what++) {
            for (int wrong : new int[] {-1, 2, 3}) {
                CHECKS.due("no such one", x.game(wrong, 0, 1, 1, what), HIDDEN);
                CHECKS.due("no such other", x.game(0, wrong, 1, 1, what), HIDDEN);
            }
            for (int wrong : new int[] {-1, 3}) {
                CHECKS.due("x out of bounds", x.game(0, 1, wrong, 1, what), HIDDEN);
                CHECKS.due("y out of bounds", x.game(0, 1, 1, wrong, what), HIDDEN);
            }
            CHECKS.due("alike", x.game(1, 1, 1, 1, what), HIDDEN);
        }
        CHECKS.due("what", x.game(0, 1, 1, 1, 2), HIDDEN);
        CHECKS.due("what", x.game(0, 1, 1, 1, -1), HIDDEN);
        CHECKS.due("alone", Checks.of("m").game(0, 1, 1, 1, 0), HIDDEN);
    }

    private static void rests(SledgeVote x, int... want) {
        CHECKS.due("rests(0, 1, NONE)", x.rests(0, 1, NONE), want.length);
        for (int i = 0; i < want.length; i++) {
            CHECKS.due("rests(0, 1, " + i + ")", x.rests(0, 1, i), want[i]);
        }
        CHECKS.due("behind the last", x.rests(0, 1, want.length), NONE);
        CHECKS.due("rests(0, 1, -2)", x.rests(0, 1, -2), NONE);
    }

    /** Promise 28: none, one, several; "(rising)"; "neither has more": as much is fine. */
    private static void restsBounds() {
        rests(Checks.of("sr1g60;m;m"), 11);
        // The first wants the porch, the second the right: each answer calls for another one.
        rests(Checks.of("sr1g1;m;ml2"));
        rests(Checks.of("sr1g1;ml0;ml2"), 1, 12);
        rests(Checks.of("sr1g6;ml2;ml2"), 11, 22);
        rests(Checks.of("sr1g6;ml0;ml0"), 0, 11);
        rests(Checks.of("sr1g3;ml0;ml0"), 1, 10);
        rests(Checks.of("sr1g3;ml2;ml2"), 12, 21);
        SledgeVote x = Checks.of("sr1g60;m;m");
        x.rows(1);
        rests(x, 11);
        CHECKS.due("alike", x.rests(0, 0, NONE), NONE);
        CHECKS.due("no such one", x.rests(2, 0, NONE), NONE);
        CHECKS.due("no such other", x.rests(0, 2, NONE), NONE);
        CHECKS.due("no such one", x.rests(-1, 0, 0), NONE);
        CHECKS.due("no such other", x.rests(0, -1, 0), NONE);
    }

    /** Promise 29: "no more than SIGHT ROWS ahead", "none: not ahead of the BUMP's ROW". */
    private static void sight() {
        for (int sight = 0; sight <= 9; sight++) {
            SledgeVote x = Checks.of("sr20;br12;br1c1;ms" + sight);
            CHECKS.due("of a bump in row 1 by " + sight, x.knows(0, 1), sight == 0 ? NONE : 0);
            for (int row = 0; row < 14; row++) {
                int due = row >= 12 || sight == 0 ? NONE : Math.max(row, 12 - sight);
                CHECKS.due("in row " + row + " by " + sight, x.knows(0, 0), due);
                CHECKS.due("a bump gone by", x.knows(0, 1), row >= 1 || sight == 0 ? NONE : 0);
                x.rows(1);
            }
        }
        SledgeVote x = Checks.of("sr20;br20;ms9;ms1");
        CHECKS.due("in row 20", x.knows(0, 0), 11);
        CHECKS.due("from the seat ahead", x.knows(1, 0), 12);
        x.rows(19);
        CHECKS.due("in the last row but one", x.knows(0, 0), 19);
        CHECKS.due("in the last row but one", x.knows(1, 0), 19);
        x.rows(1);
        CHECKS.due("at it", x.knows(0, 0), NONE);
        x.walk();
        CHECKS.due("from the top again", x.knows(0, 0), 11);
        x.strew(0);
        CHECKS.due("strewn", x.knows(0, 0), NONE);
        x.undo();
        CHECKS.due("not strewn", x.knows(0, 0), 11);
        for (int wrong : new int[] {-1, 2, 6}) {
            CHECKS.due("no such member", x.knows(wrong, 0), NONE);
            CHECKS.due("no such bump", x.knows(0, wrong), NONE);
        }
    }

    /** "known one SEAT further back .. with each ROW". */
    private static void seatsBack() {
        for (int row = 1; row <= 8; row++) {
            SledgeVote x = Checks.of("sr20;br" + row + ";ms9;ms0;ms0;ms0;ms0;ms0");
            for (int m = 0; m < 6; m++) {
                CHECKS.due("seat " + m + " of a bump in row " + row, x.knows(m, 0), m < row ? m : NONE);
            }
        }
        SledgeVote x = Checks.of("sr20;br6;ms0;ms0;ms9;ms0;ms3;ms0");
        int[] due = {NONE, NONE, 0, 1, 2, 3};
        for (int m = 0; m < 6; m++) {
            CHECKS.due("who sits in front does not hear it: " + m, x.knows(m, 0), due[m]);
        }
        x.change(2, 4);
        int[] changed = {NONE, NONE, 0, 4, 3, 1};
        for (int m = 0; m < 6; m++) {
            CHECKS.due("by seats, not by numbers: " + m, x.knows(m, 0), changed[m]);
        }
        x.rows(3);
        CHECKS.due("it begins anew from where it is", x.knows(5, 0), 4);
        x.rows(2);
        CHECKS.due("too late for the next seat", x.knows(5, 0), NONE);
        CHECKS.due("not for its own", x.knows(2, 0), 5);
    }

    private static void knowsOffTheSledge() {
        SledgeVote x = Checks.of("sr20;bc2k5;br9;ms9h0;ms8h9;ms0h0;ms1h9");
        CHECKS.due("all on it: by the first", x.knows(3, 1), 3);
        x.rows(1);
        CHECKS.due("off the sledge", x.knows(0, 1) + x.knows(2, 1), 2 * NONE);
        CHECKS.due("by its own sight", x.knows(1, 1), 1);
        CHECKS.due("over the seat of one who fell", x.knows(3, 1), 3);
        x.change(0, 3);
        CHECKS.due("in front", x.knows(3, 1), 8);
    }

    private static void sets(SledgeVote x, int k, int... want) {
        CHECKS.due("straw(" + k + ", NONE)", x.straw(k, NONE), want.length);
        for (int i = 0; i < want.length; i++) {
            CHECKS.due("straw(" + k + ", " + i + ")", x.straw(k, i), want[i]);
        }
        CHECKS.due("behind the last", x.straw(k, want.length), NONE);
        CHECKS.due("straw(" + k + ", -2)", x.straw(k, -2), NONE);
    }

    /** Promise 30: "k (0 .. 3)", sets of k bumps, rising. */
    private static void strawSets() {
        SledgeVote x = Checks.of("m");
        sets(x, 0, 0);
        sets(x, 1);
        sets(x, 3);
        CHECKS.due("straw(-1, NONE)", x.straw(-1, NONE), NONE);
        CHECKS.due("straw(4, NONE)", x.straw(4, NONE), NONE);
        x = Checks.of("so4;b;br2;br3;br4;br5;br6;m");
        sets(x, 0, 0);
        sets(x, 1, 1, 2, 4, 8, 16, 32);
        sets(x, 2, 3, 5, 6, 9, 10, 12, 17, 18, 20, 24, 33, 34, 36, 40, 48);
        sets(x, 3, 7, 11, 13, 14, 19, 21, 22, 25, 26, 28, 35, 37, 38, 41, 42, 44, 49, 50, 52, 56);
        x = Checks.of("so0;br3k9;b;br2k9;mh5;mh9");
        sets(x, 0);
        sets(x, 1);
        sets(x, 2, 5);
        sets(x, 3, 7);
        x = Checks.of("so0;b;mh9");
        sets(x, 0, 0);
        sets(x, 1, 1);
        sets(x, 2);
    }

    /** "that are not STREWN"; "nobody more": who fell is off in any case; how much straw is left is not asked. */
    private static void strawStrewn() {
        SledgeVote x = Checks.of("so0y1;b;br2;br3;mh0");
        sets(x, 3, 7);
        x.strew(1);
        CHECKS.due("no straw", x.rule(4), 0);
        sets(x, 0);
        sets(x, 1);
        sets(x, 2, 5);
        sets(x, 3);
        x.rows(1);
        CHECKS.due("it fell", x.count(7), 0);
        sets(x, 0, 0);
        sets(x, 1, 1, 4);
        sets(x, 2, 5);
    }

    /** Promise 31: "with the fewest (of several the least)". */
    private static void fewest() {
        CHECKS.due("no bumps", Checks.of("m").fewest(), 0);
        CHECKS.due("nobody will fall", Checks.of("so0;bk3;mh3").fewest(), 0);
        CHECKS.due("one", Checks.of("so0;bk3;mh2").fewest(), 1);
        StringBuilder text = new StringBuilder("so0;mh0");
        for (int n = 1; n <= 6; n++) {
            text.append(";br").append(n);
            CHECKS.due("all " + n, Checks.of(text.toString()).fewest(), (1 << n) - 1);
        }
        CHECKS.due("the fewest, not the least", Checks.of("sr3;br2c1k9;br3c1k9;br1c2k1;mh4").fewest(), 4);
        CHECKS.due("two sets of one: the least", Checks.of("sr2;br1c2k1;br2c1k9;mh4").fewest(), 1);
        CHECKS.due("two sets of one: the least", Checks.of("sr2;br2c1k9;br1c2k1;mh4").fewest(), 1);
        SledgeVote x = Checks.of("so0y1;b;br2;mh0");
        x.strew(0);
        CHECKS.due("the other one", x.fewest(), 2);
        x.rows(2);
        CHECKS.due("at the last bump: it fell", x.count(7) * 10 + x.fewest(), 0);
        CHECKS.due("beyond the last row", Checks.of("so0r1;br2;mh0").fewest(), 0);
        CHECKS.due("at the last row", Checks.of("so0r2;br2;mh0").fewest(), 1);
    }

    /** Promise 32: "(10 at most)", "ROW (1 .. 20)", the columns of the run. */
    private static void seen() {
        for (int width = 3; width <= 9; width++) {
            SledgeVote x = Checks.of("sr1w" + width + ";m");
            CHECKS.due("column -1", x.seen(1, -1, true), NONE);
            CHECKS.due("column 0", x.seen(1, 0, true), 1);
            CHECKS.due("the last column", x.seen(1, width - 1, true), 2);
            CHECKS.due("one beyond it", x.seen(1, width, true), NONE);
            CHECKS.due("row 0", x.seen(0, 0, true), NONE);
            CHECKS.due("row -1", x.seen(-1, 0, true), NONE);
            CHECKS.due("row 20, beyond the last row", x.seen(20, 0, false), 3);
            CHECKS.due("row 21", x.seen(21, 0, false), NONE);
            for (int n = 4; n <= 10; n++) {
                CHECKS.due("the same once more", x.seen(20, 0, false), n);
            }
            CHECKS.due("an eleventh", x.seen(1, 0, true), NONE);
            CHECKS.due("count(10)", x.count(10), 10);
        }
    }

    private static void who(SledgeVote x, int g, int... want) {
        CHECKS.due("who(" + g + ", NONE)", x.who(g, NONE), want.length);
        for (int i = 0; i < want.length; i++) {
            CHECKS.due("who(" + g + ", " + i + ")", x.who(g, i), want[i]);
        }
        CHECKS.due("behind the last", x.who(g, want.length), NONE);
        CHECKS.due("who(" + g + ", -2)", x.who(g, -2), NONE);
    }

    /** Promise 33: "g (1 .. 5)", "(9 at most)", "9: it is so with none". */
    private static void whoBounds() {
        SledgeVote x = Checks.of("m;m;m;m;m;m");
        for (int g = 1; g <= 5; g++) {
            who(x, g, 0, 1, 2, 3, 4, 5, 9);
        }
        for (int g : new int[] {-1, 0, 6, 7}) {
            CHECKS.due("who(" + g + ", NONE)", x.who(g, NONE), NONE);
            CHECKS.due("who(" + g + ", 0)", x.who(g, 0), NONE);
        }
        x.seen(1, 1, true);
        for (int g = 1; g <= 5; g++) {
            who(x, g);
        }
        for (int weight = 1; weight <= 9; weight++) {
            for (int grip = 1; grip <= 15; grip++) {
                x = Checks.of("sr1g" + grip + ";mw" + weight + "l2");
                x.seen(1, 3, true);
                for (int g = 1; g <= 5; g++) {
                    boolean heavier = Math.min(9, weight + g) >= grip;
                    boolean none = weight >= grip;
                    CHECKS.due("how many by " + g, x.who(g, NONE), (heavier ? 1 : 0) + (none ? 1 : 0));
                    CHECKS.due("the first by " + g, x.who(g, 0), heavier ? 0 : NONE);
                    CHECKS.due("the second by " + g, x.who(g, 1), none ? 9 : NONE);
                }
            }
        }
        x = Checks.of("sr2g3;ml2;ml0");
        x.seen(1, 2, true);
        x.seen(2, 2, false);
        who(x, 3);
        x = Checks.of("sr2g3;ml2;ml0");
        x.seen(1, 2, false);
        x.seen(1, 3, false);
        who(x, 3, 1);
    }

    /** "from the top, as told"; "no STRAW; ROWS no further than the last one"; the law is the one that holds. */
    private static void whoFromTheTop() {
        SledgeVote x = Checks.of("sr2g3w9o4;br2c5k9d1;ml2;mw6l0");
        x.seen(20, 2, true);
        who(x, 5, 1, 9);
        who(x, 3, 1, 9);
        x.seen(2, 2, false);
        who(x, 5);
        x = Checks.of("sr2g3w9o4;br2c2k9d1;ml2;mw6l0");
        x.seen(2, 3, true);
        who(x, 1, 1, 9);
        String[] ways = {"lean", "change", "heel", "strew", "rows", "walk"};
        for (String way : ways) {
            switch (way) {
                case "lean" -> x.lean(0, 0);
                case "change" -> x.change(0, 1);
                case "heel" -> x.heel(0);
                case "strew" -> x.strew(0);
                case "rows" -> x.rows(2);
                default -> x.walk();
            }
            who(x, 1, 1, 9);
        }
        Checks.law(x, "y:h");
        who(x, 1);
        x.law(NONE);
        who(x, 1, 1, 9);
    }

    /** Promise 34: "the ROW (1 .. ROWS)", "(of several the least)", "nothing fits". */
    private static void look() {
        SledgeVote x = Checks.of("sr1;m");
        CHECKS.due("one row", x.best(1), 1);
        for (int g : new int[] {-1, 0, 6}) {
            CHECKS.due("best(" + g + ")", x.best(g), NONE);
        }
        x.seen(1, 0, true);
        CHECKS.due("nothing fits", x.best(1), NONE);
        for (int last = 2; last <= 20; last++) {
            x = Checks.of("sg4r" + last + ";ir" + (last - 1) + ";mw1l2");
            CHECKS.due("the last of " + last + " rows", x.best(1), last);
            CHECKS.due("all alike: the first", x.best(5), 1);
            x = Checks.of("sg4r" + (last - 1) + ";ir" + (last - 1) + ";mw1l2");
            CHECKS.due("not beyond it", x.best(1), 1);
        }
        x = Checks.of("sg4r9;ir3;mw1l2");
        CHECKS.due("the earliest row that tells", x.best(1), 4);
        x.seen(9, 2, true);
        CHECKS.due("none alone fits: any row", x.best(1), 1);
    }

    private static void parts(SledgeVote x, int chance, int left, int porch, int right) {
        CHECKS.due("left by " + chance, x.odds(0, chance), left);
        CHECKS.due("porch by " + chance, x.odds(1, chance), porch);
        CHECKS.due("right by " + chance, x.odds(2, chance), right);
    }

    /** Promise 35: "a chance (0 .. 100)", "100ths of its part, cut". */
    private static void odds() {
        SledgeVote x = Checks.of("sr1g3;ml2");
        for (int chance = 0; chance <= 100; chance++) {
            parts(x, chance, chance * 10000000, 0, ALL - chance * 10000000);
        }
        CHECKS.due("odds(2, -1)", x.odds(2, -1), NONE);
        CHECKS.due("odds(2, 101)", x.odds(2, 101), NONE);
        CHECKS.due("odds(-1, 50)", x.odds(-1, 50), NONE);
        CHECKS.due("odds(3, 50)", x.odds(3, 50), NONE);
        x.rows(1);
        parts(x, 50, 0, 0, ALL);
        x = Checks.of("sr1g3;ml1");
        parts(x, 0, 0, ALL, 0);
        parts(x, 100, 0, ALL, 0);
        x = Checks.of("sr1g18;ml2;ml2;ml2;ml2;ml2;ml2");
        parts(x, 0, 0, 0, ALL);
        parts(x, 100, ALL, 0, 0);
        parts(x, 50, 15625000, ALL - 2 * 15625000, 15625000);
        // All wrongly: 10 to the 9 by 100 four times is 10, then cut to 0. None wrongly: 960596010 behind the fourth,
        // less 9605960 (cut) and less 9509900 (cut).
        parts(x, 1, 0, ALL - 941480150, 941480150);
        CHECKS.due("none wrongly by 99: 10 behind the fourth, then 1 and 1", x.odds(2, 99), 1);
        x = Checks.of("sr1g15;ml2;ml2;ml2;ml2;ml2");
        CHECKS.due("five of them, cut to 0", x.odds(0, 1), 0);
        x = Checks.of("sr1g12;ml2;ml2;ml2;ml2");
        CHECKS.due("four of them: ten", x.odds(0, 1), 10);
    }

    /**
     * "one behind the other by numbers": it ends at the porch if the light one alone leans wrongly (the bump keeps
     * those from it who went to the left). As the sixth it has 33 100ths of 135012511, cut; as the first its part of
     * 330000000 is cut by the fifth and the sixth.
     */
    private static void oddsByNumbers() {
        String[] members = {"mw2l2;mw2l2;mw2l2;mw2l2;mw2l2;mw1l2", "mw1l2;mw2l2;mw2l2;mw2l2;mw2l2;mw2l2"};
        int[] due = {44554128, 44554129};
        for (int i = 0; i < 2; i++) {
            SledgeVote x = Checks.of("sw9o4g9r2;bc3k1;" + members[i]);
            Checks.law(x, "y:r=0?w;y:w=1?9;y:0");
            CHECKS.due("the light one alone", x.odds(1, 33), due[i]);
            x.change(0, 5);
            CHECKS.due("not by seats", x.odds(1, 33), due[i]);
        }
    }

    /** Those who fall lean wrongly as well, ahead of it; those off it do not. */
    private static void oddsFall() {
        SledgeVote x = Checks.of("sr2g3;bc2k9;bc3k9;bc1k9;ml2h0");
        parts(x, 25, ALL / 4, ALL / 4 * 3, 0);
        x.rows(1);
        CHECKS.due("in column 2 with nobody", x.count(6) * 10 + x.count(7), 20);
        parts(x, 25, 0, ALL, 0);
    }

    /** Promise 36: "c (0 .. 999)", "cut (off it, none on it: 0)". */
    private static void shares() {
        SledgeVote x = Checks.of("mw1;mw2;mw9;mw9;mw9;mw9");
        int[] due = {25, 51, 230, 230, 230, 230};
        for (int m = 0; m < 6; m++) {
            CHECKS.due("of 999", x.shares(m, 999), due[m]);
            CHECKS.due("of 0", x.shares(m, 0), 0);
            CHECKS.due("of 1", x.shares(m, 1), 0);
            CHECKS.due("of -1", x.shares(m, -1), NONE);
            CHECKS.due("of 1000", x.shares(m, 1000), NONE);
        }
        CHECKS.due("of 38: just not one", x.shares(0, 38), 0);
        CHECKS.due("of 39: just one", x.shares(0, 39), 1);
        CHECKS.due("shares(6, 1)", x.shares(6, 1), NONE);
        CHECKS.due("shares(-1, 1)", x.shares(-1, 1), NONE);
        x = Checks.of("mw9");
        CHECKS.due("alone", x.shares(0, 999), 999);
        x = Checks.of("bc2k5;mw5h0;mw4h9;mw2h9");
        x.rows(1);
        CHECKS.due("off it", x.shares(0, 999), 0);
        CHECKS.due("by those on it", x.shares(1, 999) * 1000 + x.shares(2, 999), 666333);
        CHECKS.due("off it, out of bounds", x.shares(0, 1000), NONE);
        x = Checks.of("bc2k9;m;m");
        x.rows(1);
        CHECKS.due("none on it", x.shares(0, 999) + x.shares(1, 999), 0);
    }

    /** Promise 37: "(of several the lowest)", "NONE: all FELL", "(0 or 2; as much: 1)". */
    private static void most() {
        SledgeVote x = Checks.of("m;m;m;m;m;m");
        CHECKS.due("all alike: the lowest", x.most(0), 0);
        CHECKS.due("all six lean to none", x.most(1), 63);
        CHECKS.due("nobody leans: as much", x.most(2), 1);
        x = Checks.of("mw8l0;mw9l2;mw9l2;mw9l0");
        CHECKS.due("of three the lowest", x.most(0), 1);
        CHECKS.due("nobody leans to none", x.most(1), 0);
        CHECKS.due("right by one", x.most(2), 2);
        x = Checks.of("mw9l0;mw8l2;ml1w9;ml1w9");
        CHECKS.due("left by one, those who lean to none do not count", x.most(2), 0);
        x = Checks.of("mw9l0;mw8l2;mw1l2");
        CHECKS.due("as much", x.most(2), 1);
        x = Checks.of("sr1g60;bc2k5;mw9l2h0;mw1l0h9;ml1h0");
        x.rows(1);
        CHECKS.due("on the sledge", x.most(0), 1);
        CHECKS.due("off it, too", x.most(1), 4);
        CHECKS.due("on the sledge", x.most(2), 0);
        x = Checks.of("sr1g60;bc2k5;ml2;ml2");
        x.rows(1);
        CHECKS.due("all fell", x.most(0), NONE);
        CHECKS.due("all fell: as much", x.most(2), 1);
        CHECKS.due("most(3)", x.most(3), NONE);
        CHECKS.due("most(-1)", x.most(-1), NONE);
    }

    /** Promise 38: "the least HEELS (0 .. 9)". */
    private static void stays() {
        for (int kick = 1; kick <= 9; kick++) {
            for (int heels = 0; heels <= 9; heels++) {
                CHECKS.due("kick " + kick, Checks.of("sr1;bc2k" + kick + ";mh" + heels).stays(0), kick);
            }
        }
        SledgeVote x = Checks.of("sr2;br2c2k9;m;m");
        CHECKS.due("by the last row", x.stays(1), 9);
        CHECKS.due("stays(2)", x.stays(2), NONE);
        CHECKS.due("stays(-1)", x.stays(-1), NONE);
        x.strew(0);
        CHECKS.due("strewn", x.stays(1), 0);
        x.undo();
        x.rows(2);
        CHECKS.due("it fell", x.stays(0), NONE);
        x.walk();
        CHECKS.due("on it again", x.stays(0), 9);
        CHECKS.due("no bump", Checks.of("mh9").stays(0), 0);
        CHECKS.due("a bump beyond the last row", Checks.of("sr1;br2c2k9;m").stays(0), 0);
        x = Checks.of("sr2;bc2k2;br2c1k7;br2c2k9;m");
        CHECKS.due("the greater of two kicks", x.stays(0), 7);
        x = Checks.of("sr1g4;bc3k9;ml2");
        Checks.law(x, "y:h");
        CHECKS.due("the least, though more would fall", x.stays(0), 0);
    }

    /** Promise 39: "(bits; STREWN ones, too)", "as that ROW is come to". */
    private static void met() {
        CHECKS.due("no bumps", Checks.of("m").met(), 0);
        SledgeVote x = Checks.of("so0;br1;br2;br3;br4;br5;br6;m");
        for (int row = 0; row <= 6; row++) {
            CHECKS.due("from row " + row, x.met(), 63 >> row << row);
            x.rows(1);
        }
        CHECKS.due("at the last row", Checks.of("so0r2;br2;br3;m").met(), 1);
        x = Checks.of("so0r2y2;br2;m");
        x.strew(0);
        CHECKS.due("strewn ones, too", x.met(), 1);
        x.rows(2);
        CHECKS.due("not the one at which it is", x.met(), 0);
        x = Checks.of("sr1;bc2d1;bc3d1;bc1;m");
        CHECKS.due("not the one to which it is thrown", x.met(), 1);
        x = Checks.of("sr2g3;bc3d0;br2c3;br2c4;bc2;ml2h9");
        CHECKS.due("by how it goes", x.met(), 3);
    }
}
