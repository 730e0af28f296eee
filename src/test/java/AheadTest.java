/** Promises 22 to 31 and 35 to 39: what is told from as it is now. */
public final class AheadTest {
    private static final Checks CHECKS = new Checks("AheadTest");
    // By columns 2, 2, 4, 3, 4, 4, 4 (HandTest says why), on which the first and the third fall off.
    private static final String CANTON = HandTest.CANTON;
    // Who sits in front pushes 3, the others nothing: right, left, none.
    private static final String FRONT = "sg3r1;ml2;ml0;m";
    private static final String FRONT_LAW = "y:3-3*p";

    public static void main(String[] args) {
        ends();
        sides();
        ahead();
        turn();
        turnFromBelow();
        seating();
        power();
        games();
        rests();
        knows();
        straw();
        odds();
        oddsCut();
        shares();
        most();
        stays();
        met();
        nothingIsChanged();
        CHECKS.finish();
    }

    private static void ends() {
        SledgeVote x = new SledgeVote();
        CHECKS.due("no canton", x.ends(0), -1);
        Checks.canton(x, CANTON);
        for (int row = 0; row <= 6; row++) {
            CHECKS.due("ends(0) from row " + row, x.ends(0), 4);
            CHECKS.due("ends(1) from row " + row, x.ends(1), 2);
            CHECKS.due("ends(2) from row " + row, x.ends(2), 5);
            x.rows(1);
        }
        CHECKS.due("ends(3)", x.ends(3), -1);
        CHECKS.due("ends(-1)", x.ends(-1), -1);
    }

    private static void sides() {
        for (int width = 3; width <= 9; width++) {
            for (int column = 0; column < width; column++) {
                SledgeVote x = Checks.of("sw" + width + "o" + column + "r1;m");
                int side = Integer.compare(2 * column, width - 1) + 1;
                CHECKS.due("side of " + column + " in " + width, x.ends(1), side);
            }
        }
    }

    private static void ahead() {
        SledgeVote x = new SledgeVote();
        CHECKS.due("no canton", x.ahead(0), -1);
        Checks.canton(x, CANTON);
        int[] columns = {2, 2, 4, 3, 4, 4, 4};
        for (int n = 0; n <= 20; n++) {
            CHECKS.due("ahead(" + n + ")", x.ahead(n), columns[Math.min(n, 6)]);
        }
        CHECKS.due("ahead(21)", x.ahead(21), -1);
        CHECKS.due("ahead(-1)", x.ahead(-1), -1);
        x.rows(2);
        CHECKS.due("ahead(1) from row 2", x.ahead(1), 3);
    }

    private static void turn() {
        SledgeVote x = new SledgeVote();
        CHECKS.due("no canton", x.turn(0, 0), -1);
        CHECKS.due("no canton, no such side", x.turn(3, 0), -1);
        Checks.canton(x, CANTON);
        CHECKS.due("right: none", x.turn(2, 0), 0);
        CHECKS.due("right: as it is", x.turn(2, 1), 220);
        CHECKS.due("left: one", x.turn(0, 0), 1);
        CHECKS.due("left: the second", x.turn(0, 1), 200);
        CHECKS.due("porch: one", x.turn(1, 0), 1);
        CHECKS.due("porch: the first, to the left", x.turn(1, 1), 20);
        CHECKS.due("turn(3, 0)", x.turn(3, 0), -1);
        CHECKS.due("turn(-1, 0)", x.turn(-1, 0), -1);
        CHECKS.due("turn(0, 2)", x.turn(0, 2), -1);
        CHECKS.due("turn(0, -1)", x.turn(0, -1), -1);
        Checks.canton(x, "sg6r1;m;m;m;m;m;m");
        CHECKS.due("two of six", x.turn(2, 0), 2);
        CHECKS.due("the least row", x.turn(2, 1), 111122);
        CHECKS.due("the least row to the left", x.turn(0, 1), 1111);
        Checks.canton(x, "sg60r1;m");
        CHECKS.due("there is none", x.turn(0, 0), -1);
        CHECKS.due("there is none", x.turn(2, 1), -1);
    }

    private static void turnFromBelow() {
        SledgeVote x = Checks.of("sg4r2;bc2k9d1;mh0l1;mw4h9l1;mh0l2");
        x.rows(1);
        CHECKS.due("thrown right, with the second alone", x.count(6) * 10 + x.count(7), 32);
        CHECKS.due("right by itself", x.turn(2, 1), 112);
        CHECKS.due("one on it is enough for the porch", x.turn(1, 0), 1);
        CHECKS.due("those who fell keep their lean", x.turn(1, 1), 102);
        x.lean(0, 0);
        CHECKS.due("those who fell keep their lean", x.turn(1, 1), 2);
        x.undo();
        CHECKS.due("left is too far", x.turn(0, 0), -1);
        x.rows(1);
        CHECKS.due("at the last row", x.turn(2, 0), 0);
        CHECKS.due("at the last row", x.turn(1, 0), -1);
    }

    private static void seating() {
        SledgeVote x = new SledgeVote();
        CHECKS.due("no canton", x.seating(0, 0), -1);
        Checks.canton(x, FRONT);
        CHECKS.due("no law", x.seating(1, 0), 0);
        CHECKS.due("no law", x.seating(2, 0), -1);
        Checks.law(x, FRONT_LAW);
        CHECKS.due("as it is", x.seating(2, 0), 0);
        CHECKS.due("as it is", x.seating(2, 1), 12);
        CHECKS.due("left", x.seating(0, 0), 2);
        CHECKS.due("left", x.seating(0, 1), 102);
        CHECKS.due("porch", x.seating(1, 0), 2);
        CHECKS.due("porch", x.seating(1, 1), 210);
        x.change(0, 1);
        x.change(1, 2);
        CHECKS.due("from seats 2 0 1: as it is", x.seating(1, 1), 201);
        CHECKS.due("the first in front", x.seating(2, 0), 2);
        CHECKS.due("the first in front", x.seating(2, 1), 21);
        CHECKS.due("the second in front", x.seating(0, 1), 102);
        CHECKS.due("seating(3, 0)", x.seating(3, 0), -1);
        CHECKS.due("seating(-1, 0)", x.seating(-1, 0), -1);
        CHECKS.due("seating(0, 2)", x.seating(0, 2), -1);
        CHECKS.due("seating(0, -1)", x.seating(0, -1), -1);
        Checks.canton(x, "sg3r1;m;m;m;m;m;ml2");
        CHECKS.due("the last of six to the front", x.seating(2, 0), 2);
        CHECKS.due("the last of six to the front", x.seating(2, 1), 512340);
    }

    private static void power() {
        SledgeVote x = new SledgeVote();
        CHECKS.due("no canton", x.power(0), -1);
        Checks.canton(x, "sg1r1;m;m;m");
        for (int m = 0; m < 3; m++) {
            CHECKS.due("of three alike", x.power(m), 2);
        }
        CHECKS.due("power(3)", x.power(3), -1);
        CHECKS.due("power(-1)", x.power(-1), -1);
        Checks.canton(x, "sg1r1;mw3;mw1;mw1");
        CHECKS.due("one rules", x.power(0), 4);
        CHECKS.due("the others do not", x.power(1) + x.power(2), 0);
        Checks.canton(x, "sg1r2;bc2k9d1;br2c3k1;br2c4d1;mh0;mh9;mh9w1");
        x.rows(1);
        CHECKS.due("of one who fell", x.power(0), 0);
        CHECKS.due("sets of those who fell count, too", x.power(1), 4);
        Checks.canton(x, "sr1g1;mw9");
        CHECKS.due("alone", x.power(0), 1);
        x.rows(1);
        CHECKS.due("at the last row", x.power(0), 0);
    }

    private static void games() {
        SledgeVote x = Checks.of("sg1r1;mw2l2;mw1l0");
        int[][] one = {{-1, -1, -1}, {0, 0, 6}, {5, 5, 5}};
        int[][] other = {{5, 6, 5}, {5, 0, -1}, {-1, 0, -1}};
        for (int a = 0; a < 3; a++) {
            for (int b = 0; b < 3; b++) {
                CHECKS.due("game " + a + b, x.game(0, 1, a, b, 0), one[a][b]);
                CHECKS.due("game " + a + b, x.game(0, 1, a, b, 1), other[a][b]);
                CHECKS.due("the other way round", x.game(1, 0, b, a, 1), one[a][b]);
                CHECKS.due("the other way round", x.game(1, 0, b, a, 0), other[a][b]);
            }
        }
        int[][] wrong = {{0, 0, 0, 0, 0}, {0, 2, 0, 0, 0}, {2, 0, 0, 0, 0}, {-1, 0, 0, 0, 0}, {0, 1, 3, 0, 0},
            {0, 1, -1, 0, 0}, {0, 1, 0, 3, 0}, {0, 1, 0, -1, 0}, {0, 1, 0, 0, 2}, {0, 1, 0, 0, -1}};
        for (int[] w : wrong) {
            CHECKS.due("refused", x.game(w[0], w[1], w[2], w[3], w[4]), SledgeVote.HIDDEN);
        }
        x = Checks.of("sg1r1;bc2k9;mh0;mh9");
        CHECKS.due("it will have fallen", x.game(0, 1, 1, 1, 0), -2);
        CHECKS.due("the other not", x.game(0, 1, 1, 1, 1), 0);
        x.rows(1);
        CHECKS.due("it fell", x.game(0, 1, 0, 1, 0), -3);
        x = Checks.of("sg9r1;m;m");
        CHECKS.due("none: the porch", x.game(0, 1, 1, 2, 0), 6);
        CHECKS.due("none: the porch, by another lean", x.game(0, 1, 1, 2, 1), 5);
    }

    private static void rests() {
        SledgeVote x = new SledgeVote();
        CHECKS.due("no canton", x.rests(0, 1, -1), -1);
        Checks.canton(x, "sg1r1;mw2l2;mw1l0");
        CHECKS.due("one", x.rests(0, 1, -1), 1);
        CHECKS.due("right and none", x.rests(0, 1, 0), 21);
        CHECKS.due("rests(0, 1, 1)", x.rests(0, 1, 1), -1);
        CHECKS.due("rests(0, 1, -2)", x.rests(0, 1, -2), -1);
        CHECKS.due("the other way round", x.rests(1, 0, 0), 12);
        CHECKS.due("alike", x.rests(1, 1, -1), -1);
        CHECKS.due("no such one", x.rests(0, 2, -1), -1);
        CHECKS.due("no such one", x.rests(-1, 0, -1), -1);
        Checks.canton(x, "sg2r1;mw2l2;mw2l2");
        CHECKS.due("either of them", x.rests(0, 1, -1), 2);
        CHECKS.due("the lower", x.rests(0, 1, 0), 12);
        CHECKS.due("the higher", x.rests(0, 1, 1), 21);
        Checks.canton(x, "sg1r1;mw1l0;mw1l2");
        CHECKS.due("one of them leans, the other gives in", x.rests(0, 1, -1), 2);
        CHECKS.due("one of them leans, the other gives in", x.rests(0, 1, 0), 1);
        CHECKS.due("one of them leans, the other gives in", x.rests(0, 1, 1), 12);
    }

    private static void knows() {
        SledgeVote x = new SledgeVote();
        CHECKS.due("no canton", x.knows(0, 0), -1);
        Checks.canton(x, "br8;br3c1;ms0;ms3;ms9");
        CHECKS.due("no sight", x.knows(0, 0), -1);
        CHECKS.due("by its own sight", x.knows(1, 0), 5);
        CHECKS.due("at once", x.knows(2, 0), 0);
        CHECKS.due("three rows ahead", x.knows(1, 1), 0);
        CHECKS.due("no such member", x.knows(3, 0), -1);
        CHECKS.due("no such bump", x.knows(0, 2), -1);
        CHECKS.due("knows(-1, 0)", x.knows(-1, 0), -1);
        CHECKS.due("knows(0, -1)", x.knows(0, -1), -1);
        x.change(0, 2);
        CHECKS.due("two seats back", x.knows(0, 0), 2);
        CHECKS.due("one seat back", x.knows(1, 0), 1);
        CHECKS.due("in front", x.knows(2, 0), 0);
        x.rows(1);
        CHECKS.due("from row 1 on", x.knows(0, 0), 3);
        CHECKS.due("from the one in the middle", x.knows(0, 1), 2);
        x.rows(1);
        CHECKS.due("at its row only", x.knows(0, 1), -1);
        x.rows(1);
        CHECKS.due("not ahead of the row", x.knows(2, 1), -1);
        x.strew(0);
        CHECKS.due("strewn", x.knows(2, 0), -1);
        Checks.canton(x, "bc2k5;br9;ms9h9;ms0h0;ms0h9");
        x.rows(1);
        CHECKS.due("over the seat of one who fell", x.knows(2, 1), 3);
        CHECKS.due("off the sledge", x.knows(1, 1), -1);
        Checks.canton(x, "bc2k5;br9;ms0h9;ms9h0;ms1h9");
        x.rows(1);
        CHECKS.due("one who fell tells nothing", x.knows(2, 1), 8);
        CHECKS.due("what is known goes back only", x.knows(0, 1), -1);
    }

    private static void straw() {
        SledgeVote x = new SledgeVote();
        CHECKS.due("no canton", x.straw(0, -1) + x.fewest(), -2);
        Checks.canton(x, "sr4y3;br1c2k5d0;br2c2k5d1;br2c1k5d1;mh3;mh6");
        CHECKS.due("none", x.straw(0, -1), 0);
        CHECKS.due("one", x.straw(1, -1), 0);
        CHECKS.due("two", x.straw(2, -1), 1);
        CHECKS.due("two", x.straw(2, 0), 3);
        CHECKS.due("no such one", x.straw(2, 1), -1);
        CHECKS.due("no such one", x.straw(2, -2), -1);
        CHECKS.due("three", x.straw(3, 0), 7);
        CHECKS.due("straw(4, -1)", x.straw(4, -1), -1);
        CHECKS.due("straw(-1, -1)", x.straw(-1, -1), -1);
        CHECKS.due("fewest()", x.fewest(), 3);
        x.strew(0);
        CHECKS.due("one more", x.straw(1, -1), 1);
        CHECKS.due("one more", x.straw(1, 0), 2);
        CHECKS.due("two more", x.straw(2, 0), 6);
        CHECKS.due("there are no three", x.straw(3, -1), 0);
        CHECKS.due("fewest()", x.fewest(), 2);
        x.undo();
        x.rows(1);
        CHECKS.due("nobody more", x.straw(0, -1), 1);
        CHECKS.due("any two", x.straw(2, -1), 3);
        CHECKS.due("rising", x.straw(2, 0) * 100 + x.straw(2, 1) * 10 + x.straw(2, 2), 356);
        CHECKS.due("fewest()", x.fewest(), 0);
        Checks.canton(x, "sw3o0r5y0;br4k9;br3k9;br2k9;mh0");
        CHECKS.due("all three, without straw", x.fewest(), 7);
        Checks.canton(x, "sw3o0r5;br4k9;br3k9;br2k9;br1k9;mh0");
        CHECKS.due("three are not enough", x.straw(3, -1), 0);
        CHECKS.due("four are out of bounds", x.straw(4, -1), -1);
        CHECKS.due("four, as it asks for no k", x.fewest(), 15);
        x.strew(2);
        CHECKS.due("three more", x.fewest(), 11);
        Checks.canton(x, "bc2;br2c2;br3c2;br4c2;mh0");
        CHECKS.due("four", x.fewest(), 15);
        Checks.canton(x, "sw3o0;br6;br5;br4;br3;br2;br1;mh0");
        CHECKS.due("all six", x.fewest(), 63);
        Checks.canton(x, "sw3o0;br6;br5;br4c1;br3;br2;br1;mh0");
        CHECKS.due("five of six", x.fewest(), 59);
        Checks.canton(x, "sr3;br2c1k9;br3c1k9;br1c2k1;mh4");
        CHECKS.due("by one", x.straw(1, 0), 4);
        CHECKS.due("by two others", x.straw(2, 0), 3);
        CHECKS.due("the fewest, not the least", x.fewest(), 4);
        Checks.canton(x, "sr2;br1c2k9;br2c1k9;m");
        CHECKS.due("the first alone", x.fewest(), 1);
        Checks.canton(x, "sr2;br2c1k9;br1c2k1;mh4");
        CHECKS.due("two of one: the least", x.straw(1, -1), 2);
        CHECKS.due("two of one: the least", x.fewest(), 1);
    }

    private static void odds() {
        SledgeVote x = new SledgeVote();
        CHECKS.due("no canton", x.odds(0, 0), -1);
        Checks.canton(x, "sg1r1;mw2l2;mw1l0");
        CHECKS.due("right", x.odds(2, 25), 750000000);
        CHECKS.due("left", x.odds(0, 25), 250000000);
        CHECKS.due("porch", x.odds(1, 25), 0);
        CHECKS.due("never", x.odds(2, 0), 1000000000);
        CHECKS.due("always", x.odds(0, 100), 1000000000);
        CHECKS.due("odds(3, 0)", x.odds(3, 0), -1);
        CHECKS.due("odds(-1, 0)", x.odds(-1, 0), -1);
        CHECKS.due("odds(0, 101)", x.odds(0, 101), -1);
        CHECKS.due("odds(0, -1)", x.odds(0, -1), -1);
        Checks.canton(x, "sg1r1;m;mw1l2");
        CHECKS.due("who leans to none does so", x.odds(2, 40), 600000000);
        Checks.canton(x, "sg9r2;br1c2k5d1;br2c3d0;mw9l2h0;mw9h9l0");
        x.rows(1);
        CHECKS.due("only those on it", x.odds(1, 10), 900000000);
    }

    private static void oddsCut() {
        SledgeVote x = Checks.of("sg5r1;mw1l2;mw1l2;mw1l2;mw1l2;mw1l2");
        CHECKS.due("all wrongly", x.odds(0, 33), 3913539);
        CHECKS.due("none wrongly", x.odds(2, 33), 135012511);
        CHECKS.due("the rest", x.odds(1, 33), 1000000000 - 3913539 - 135012511);
        Checks.canton(x, "sg5r1;m;mw1l2;mw1l2;mw1l2;mw1l2;mw1l2");
        CHECKS.due("the part of one who leans to none is not cut", x.odds(0, 33), 3913539);
        CHECKS.due("the part of one who leans to none is not cut", x.odds(2, 33), 135012511);
        Checks.canton(x, "sg5r1;mw1l2;mw1l2;mw1l2;m;mw1l2;mw1l2");
        CHECKS.due("nor amid the others", x.odds(0, 33), 3913539);
        Checks.canton(x, "sg5r1;mw1l2;mw1l2;mw1l2;mw1l2;mw1l2;m");
        CHECKS.due("nor behind the others", x.odds(0, 33), 3913539);
        Checks.canton(x, "sg5r2;bc3k5;mw1l2h0;mw1l2h9;mw1l2h9;mw1l2h9;mw1l2h9;mw1l2h9");
        x.rows(1);
        CHECKS.due("the first fell", x.count(7), 62);
        CHECKS.due("the part of one off the sledge is not cut", x.odds(0, 33), 3913539);
        CHECKS.due("the part of one off the sledge is not cut", x.odds(2, 33), 135012511);
        Checks.canton(x, "m;m;m;m;ml0w9");
        CHECKS.due("one of five leans wrongly", x.odds(0, 1), 990000000);
        CHECKS.due("one of five leans wrongly", x.odds(2, 1), 10000000);
        x.lean(4, 1);
        CHECKS.due("none can lean wrongly", x.odds(1, 99), 1000000000);
    }

    private static void shares() {
        SledgeVote x = new SledgeVote();
        CHECKS.due("no canton", x.shares(0, 1), -1);
        Checks.canton(x, CANTON);
        CHECKS.due("shares(1, 100)", x.shares(1, 100), 44);
        CHECKS.due("who leans to none counts, too", x.lean(0, 1) * 100 + x.shares(1, 100), 244);
        x.undo();
        CHECKS.due("shares(0, 100)", x.shares(0, 100), 22);
        CHECKS.due("shares(2, 999)", x.shares(2, 999), 333);
        CHECKS.due("shares(2, 0)", x.shares(2, 0), 0);
        CHECKS.due("shares(2, 1000)", x.shares(2, 1000), -1);
        CHECKS.due("shares(2, -1)", x.shares(2, -1), -1);
        CHECKS.due("shares(3, 1)", x.shares(3, 1), -1);
        CHECKS.due("shares(-1, 1)", x.shares(-1, 1), -1);
        x.rows(2);
        CHECKS.due("off it", x.shares(0, 100), 0);
        CHECKS.due("alone", x.shares(1, 100), 100);
        Checks.canton(x, "mw1");
        CHECKS.due("the least weight, alone", x.shares(0, 100), 100);
        Checks.canton(x, "bc2k9;m");
        x.rows(1);
        CHECKS.due("none on it", x.shares(0, 100), 0);
    }

    private static void most() {
        SledgeVote x = new SledgeVote();
        CHECKS.due("no canton", x.most(0) + x.most(1) + x.most(2), -3);
        Checks.canton(x, "bc2k5;mw3l0h9;mw5h0;mw5l2h9;mw1h0");
        CHECKS.due("the lowest of the heaviest", x.most(0), 1);
        CHECKS.due("moderates", x.most(1), 10);
        CHECKS.due("governs", x.most(2), 2);
        CHECKS.due("most(3)", x.most(3), -1);
        CHECKS.due("most(-1)", x.most(-1), -1);
        x.rows(1);
        CHECKS.due("the heaviest on it", x.most(0), 2);
        CHECKS.due("moderates, also off it", x.most(1), 10);
        Checks.canton(x, "bc2k5;mw3l0h9;mw5h0l2;mw2h9l2");
        CHECKS.due("right", x.most(2), 2);
        x.rows(1);
        CHECKS.due("left, by those on it", x.most(2), 0);
        Checks.canton(x, "bc2k5;mw3l0;mw3l2;mw9");
        CHECKS.due("as much", x.most(2), 1);
        x.rows(1);
        CHECKS.due("all fell", x.most(0), -1);
        CHECKS.due("nobody governs", x.most(2), 1);
    }

    private static void stays() {
        SledgeVote x = new SledgeVote();
        CHECKS.due("no canton", x.stays(0), -1);
        Checks.canton(x, CANTON);
        for (int m = 0; m < 3; m++) {
            CHECKS.due("stays(" + m + ")", x.stays(m), 4);
        }
        CHECKS.due("stays(3)", x.stays(3), -1);
        CHECKS.due("stays(-1)", x.stays(-1), -1);
        x.rows(2);
        CHECKS.due("off it", x.stays(0), -1);
        CHECKS.due("only the second bump", x.stays(1), 2);
        x.rows(4);
        CHECKS.due("no bump", x.stays(1), 0);
        Checks.canton(x, "bc2k9;m");
        CHECKS.due("nine", x.stays(0), 9);
        Checks.canton(x, "sg4;bc2k9;br1c3k2;mh1l2");
        Checks.law(x, "y:h");
        CHECKS.due("heels that push it past the bump", x.stays(0), 4);
    }

    private static void met() {
        SledgeVote x = new SledgeVote();
        CHECKS.due("no canton", x.met(), -1);
        Checks.canton(x, CANTON);
        CHECKS.due("both", x.met(), 3);
        x.rows(2);
        CHECKS.due("the second", x.met(), 2);
        x.strew(1);
        CHECKS.due("a strewn one, too", x.met(), 2);
        x.rows(1);
        CHECKS.due("no more", x.met(), 0);
        Checks.canton(x, "sr1;bc2;bc1;m");
        CHECKS.due("not the one to which it is thrown", x.met(), 1);
    }

    private static void nothingIsChanged() {
        SledgeVote x = Checks.of(CANTON);
        x.rows(1);
        for (int i = 0; i < 3; i++) {
            x.ends(i);
            x.ahead(i);
            x.turn(i, 1);
            x.seating(i, 1);
            x.power(i);
            x.game(0, 1 + i % 2, i, i, 0);
            x.rests(0, 1 + i % 2, -1);
            x.straw(i, -1);
            x.odds(i, 50);
            x.stays(i);
            x.who(1 + i, -1);
            x.best(1 + i);
        }
        x.fewest();
        x.met();
        CHECKS.due("row, column, who", x.count(5) * 100 + x.count(6) * 10 + x.count(7), 127);
        CHECKS.due("log, acts", x.count(12) * 10 + x.count(13), 11);
        CHECKS.due("it goes on alike", x.rows(5), 4);
        CHECKS.due("no status", x.status(0) + x.status(1) + x.status(2) + x.status(3) + x.status(4), 0);
    }
}
