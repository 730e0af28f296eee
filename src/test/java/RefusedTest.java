import java.util.HashMap;
import java.util.Map;

/**
 * "What is refused answers as told and changes nothing but STATUS": every way in which a promise refuses a call, in
 * an object that has something to lose; and "(Apart, from as it is now.)": what is only asked changes nothing at all.
 */
public final class RefusedTest {
    private static final Checks CHECKS = new Checks("RefusedTest");
    private static final int NONE = SledgeVote.NONE;
    private static final int HIDDEN = SledgeVote.HIDDEN;
    private static final int MIN = Integer.MIN_VALUE;
    private static final int MAX = Integer.MAX_VALUE;
    private static final long THROWN = Long.MIN_VALUE;
    private static final int NO_STATUS = -1;
    private static final Map<String, String> UNDONE = new HashMap<>();
    private static final Map<String, String> BACK = new HashMap<>();
    private static final String[] STATES = {"new", "texts", "top", "road", "last", "fallen", "full"};

    private interface Call {
        long on(SledgeVote x);
    }

    public static void main(String[] args) {
        tape();
        texts();
        told();
        members();
        leaning();
        changing();
        heels();
        strewing();
        rowsAndWalk();
        dogsAndSessions();
        undoAndLog();
        aheadOfIt();
        turns();
        games();
        knowing();
        straw();
        track();
        oddsAndShares();
        images();
        counts();
        asked();
        CHECKS.finish();
    }

    /** Made anew each time, so that one object can be spent on what is undone and one on BACK. */
    private static SledgeVote make(String state) {
        SledgeVote x = new SledgeVote();
        switch (state) {
            case "new" -> { }
            case "texts" -> {
                Checks.law(x, "y:w+h");
                x.dogs(4);
                Checks.put(x, "q");
            }
            case "top" -> {
                Checks.canton(x, HandTest.CANTON);
                x.lean(1, 0);
                x.undo();
                Checks.law(x, "y:w+p");
                Checks.put(x, "mw");
            }
            case "road" -> road(x);
            case "last" -> {
                Checks.canton(x, HandTest.CANTON);
                x.rows(4);
                x.image();
                x.rows(2);
            }
            case "fallen" -> {
                Checks.canton(x, "sr3;bc2k9;br3c1;m;mw4l2");
                x.image();
                x.rows(1);
            }
            default -> full(x);
        }
        return x;
    }

    /** In row 2: the first and the third fell, the second has heels of nine, the second bump is strewn, no straw. */
    private static void road(SledgeVote x) {
        Checks.canton(x, HandTest.CANTON);
        for (int i = 0; i < 4; i++) {
            x.heel(1);
        }
        x.strew(1);
        x.rows(2);
        x.image();
        x.lean(2, 1);
        x.seen(1, 2, true);
        x.dogs(3);
        Checks.put(x, "mw");
    }

    /** Four laws, a tape of 240 that is a law, ten seen, forty acts, a log of sixty, six members and bumps. */
    private static void full(SledgeVote x) {
        for (int i = 0; i < 4; i++) {
            Checks.law(x, "y:w+" + i);
        }
        Checks.canton(x, "sr20g60;b;br2;br3;br4;br5;br6;i;ir1;ir2;ir3;m;ml0;ml2;m;m;m");
        for (int i = 0; i < 10; i++) {
            x.seen(1 + i, 2, true);
        }
        x.sessions(4, 11);
        x.image();
        for (int i = 0; i < 41; i++) {
            x.change(0, 1);
        }
        Checks.put(x, "y:1" + " ".repeat(237));
    }

    private static void refused(String state, String name, long want, int why, Call call) {
        String label = name + " of " + state;
        SledgeVote x = make(state);
        int[] status = Whole.status(x);
        CHECKS.due(label, call.on(x), want);
        for (int what = 0; what < 5; what++) {
            CHECKS.due("status(" + what + ") behind " + label, x.status(what), status[what] + (what == why ? 1 : 0));
        }
        String unlike = Whole.unlike(Whole.undone(x), UNDONE.computeIfAbsent(state, s -> Whole.undone(make(s))));
        CHECKS.due(label + " changed: " + unlike, unlike.isEmpty(), true);
        x = make(state);
        call.on(x);
        unlike = Whole.unlike(Whole.back(x), BACK.computeIfAbsent(state, s -> Whole.back(make(s))));
        CHECKS.due(label + " changed the image: " + unlike, unlike.isEmpty(), true);
    }

    private static void everywhere(String name, long want, Call call) {
        for (String state : STATES) {
            refused(state, name, want, NO_STATUS, call);
        }
    }

    private static void withoutCanton(String name, long want, int why, Call call) {
        refused("new", name, want, why, call);
        refused("texts", name, want, why, call);
    }

    private static long of(boolean answer) {
        return answer ? 1 : 0;
    }

    /** Promises 2 and 3. */
    private static void tape() {
        refused("full", "a byte more than 240", NONE, NO_STATUS, x -> x.feed(0, 0, 0, 0, 1));
        refused("full", "a byte more than 240, the first", NONE, NO_STATUS, x -> x.feed(MIN, 0, 0, 0, 0));
        refused("full", "twenty more than 240", NONE, NO_STATUS, x -> x.feed(-1, -1, -1, -1, -1));
        everywhere("end(-1)", 0, x -> of(x.end(-1)));
        everywhere("end(MIN)", 0, x -> of(x.end(MIN)));
        everywhere("end(MAX)", 0, x -> of(x.end(MAX)));
        everywhere("end of one more than it has", 0, x -> of(x.end(x.count(3) + 1)));
        refused("full", "end(241)", 0, NO_STATUS, x -> of(x.end(241)));
    }

    /** Promises 4, 5 and 9. */
    private static void texts() {
        for (int sort : new int[] {-1, 2, MIN, MAX}) {
            everywhere("fault(" + sort + ")", -2, x -> x.fault(sort));
            everywhere("text(" + sort + ")", NONE, x -> x.text(sort));
        }
        everywhere("text(0) of a fault", NONE, x -> x.text(0));
        for (String state : new String[] {"new", "texts", "top", "road", "last", "fallen"}) {
            refused(state, "text(1) of a fault", NONE, NO_STATUS, x -> x.text(1));
        }
        refused("full", "a fifth law", NONE, NO_STATUS, x -> x.text(1));
        refused("full", "law(4)", 0, NO_STATUS, x -> of(x.law(4)));
        refused("new", "law(0)", 0, NO_STATUS, x -> of(x.law(0)));
        refused("texts", "law(1)", 0, NO_STATUS, x -> of(x.law(1)));
        for (int law : new int[] {-2, MIN, MAX}) {
            everywhere("law(" + law + ")", 0, x -> of(x.law(law)));
        }
    }

    /** Promises 6, 7 and 10. */
    private static void told() {
        for (int what = 0; what < 5; what++) {
            int w = what;
            withoutCanton("rule(" + what + ")", NONE, NO_STATUS, x -> x.rule(w));
            withoutCanton("bump(0, " + what + ")", NONE, NO_STATUS, x -> x.bump(0, w));
        }
        for (int what : new int[] {-1, 5, MIN, MAX}) {
            everywhere("rule(" + what + ")", NONE, x -> x.rule(what));
            everywhere("bump(0, " + what + ")", NONE, x -> x.bump(0, what));
        }
        for (int bump : new int[] {-1, 6, MIN, MAX}) {
            everywhere("bump(" + bump + ", 0)", NONE, x -> x.bump(bump, 0));
        }
        refused("road", "the third of two bumps", NONE, NO_STATUS, x -> x.bump(2, 0));
        refused("road", "whether the third of two is strewn", NONE, NO_STATUS, x -> x.bump(2, 4));
        withoutCanton("sum()", HIDDEN, NO_STATUS, x -> x.sum());
    }

    /** Promise 8. */
    private static void members() {
        for (int what = 0; what < 7; what++) {
            int w = what;
            withoutCanton("member(0, " + what + ")", THROWN, NO_STATUS, x -> Whole.member(x, 0, w));
            refused("road", "of the fourth of three, " + what, THROWN, NO_STATUS, x -> Whole.member(x, 3, w));
        }
        for (int wrong : new int[] {-1, 7, MIN, MAX}) {
            everywhere("member(0, " + wrong + ")", THROWN, x -> Whole.member(x, 0, wrong));
            everywhere("member(" + wrong + ", 0)", THROWN, x -> Whole.member(x, wrong, 0));
        }
        refused("full", "the seventh of six", THROWN, NO_STATUS, x -> Whole.member(x, 6, 0));
    }

    /** Promise 11. */
    private static void leaning() {
        withoutCanton("lean(0, 0)", NONE, 0, x -> x.lean(0, 0));
        withoutCanton("lean(0, 9)", NONE, 0, x -> x.lean(0, 9));
        for (int wrong : new int[] {-1, 3, MIN, MAX}) {
            refused("road", "no such one, " + wrong, NONE, 0, x -> x.lean(wrong, 0));
            refused("road", "no such one ahead of out of bounds, " + wrong, NONE, 0, x -> x.lean(wrong, wrong));
            refused("road", "out of bounds, " + wrong, NONE, 1, x -> x.lean(1, wrong));
            refused("road", "out of bounds, of one who fell, " + wrong, NONE, 1, x -> x.lean(0, wrong));
        }
        refused("full", "the seventh of six", NONE, 0, x -> x.lean(6, 0));
        refused("full", "it is so: left", NONE, 2, x -> {
            int m = 0;
            while (x.member(m, 1) != 0) {
                m++;
            }
            return x.lean(m, 0);
        });
        refused("road", "it is so: none", NONE, 2, x -> x.lean(2, 1));
        refused("road", "it is so: right", NONE, 2, x -> x.lean(1, 2));
        refused("road", "it is so, of one who fell", NONE, 2, x -> x.lean(0, 2));
    }

    /** Promise 12. */
    private static void changing() {
        withoutCanton("change(0, 1)", NONE, 0, x -> x.change(0, 1));
        withoutCanton("change(0, 0)", NONE, 0, x -> x.change(0, 0));
        for (int wrong : new int[] {-1, 3, MIN, MAX}) {
            refused("road", "the first is not there, " + wrong, NONE, 0, x -> x.change(wrong, 0));
            refused("road", "the second is not there, " + wrong, NONE, 0, x -> x.change(0, wrong));
            refused("road", "not there ahead of alike, " + wrong, NONE, 0, x -> x.change(wrong, wrong));
        }
        for (int m = 0; m < 3; m++) {
            int member = m;
            refused("road", "alike, " + m, NONE, 2, x -> x.change(member, member));
        }
        refused("full", "the seventh of six", NONE, 0, x -> x.change(0, 6));
    }

    /** Promise 13. */
    private static void heels() {
        withoutCanton("heel(0)", NONE, 0, x -> x.heel(0));
        for (int wrong : new int[] {-1, 3, MIN, MAX}) {
            refused("road", "no such one, " + wrong, NONE, 0, x -> x.heel(wrong));
        }
        refused("full", "the seventh of six", NONE, 0, x -> x.heel(6));
        refused("road", "nine", NONE, 2, x -> x.heel(1));
    }

    /** Promise 14. */
    private static void strewing() {
        withoutCanton("strew(0)", NONE, 0, x -> x.strew(0));
        for (int wrong : new int[] {-1, 2, MIN, MAX}) {
            refused("road", "no such bump, ahead of no straw, " + wrong, NONE, 0, x -> x.strew(wrong));
            refused("top", "no such bump, " + wrong, NONE, 0, x -> x.strew(wrong));
        }
        refused("full", "the seventh of six", NONE, 0, x -> x.strew(6));
        refused("road", "it is, ahead of no straw", NONE, 2, x -> x.strew(1));
        refused("road", "no straw", NONE, 3, x -> x.strew(0));
    }

    /** Promises 15 and 16. */
    private static void rowsAndWalk() {
        for (int n : new int[] {-1, 0, 1, 20, 21, MIN, MAX}) {
            withoutCanton("rows(" + n + ")", NONE, 0, x -> x.rows(n));
        }
        for (int n : new int[] {-1, 0, 21, MIN, MAX}) {
            refused("top", "rows(" + n + ")", NONE, 1, x -> x.rows(n));
            refused("last", "out of bounds ahead of beyond, " + n, NONE, 1, x -> x.rows(n));
        }
        refused("top", "rows(7) of six", NONE, 4, x -> x.rows(7));
        refused("top", "rows(20) of six", NONE, 4, x -> x.rows(20));
        refused("road", "rows(5) of four", NONE, 4, x -> x.rows(5));
        refused("last", "rows(1) at the last one", NONE, 4, x -> x.rows(1));
        refused("full", "rows(20) at the last one", NONE, 4, x -> x.rows(20));
        withoutCanton("walk()", NONE, 0, x -> x.walk());
        refused("top", "walk() at the top", NONE, 4, x -> x.walk());
        refused("road", "walk() on the way", NONE, 4, x -> x.walk());
        refused("fallen", "walk() with nobody on the sledge", NONE, 4, x -> x.walk());
    }

    /** Promises 17 and 18. */
    private static void dogsAndSessions() {
        for (int v : new int[] {-1, 10, MIN, MAX}) {
            everywhere("dogs(" + v + ")", 0, x -> of(x.dogs(v)));
        }
        everywhere("dogs as they are", 0, x -> of(x.dogs(x.count(9))));
        for (int n : new int[] {-1, 0, 21, MIN, MAX}) {
            everywhere("sessions(" + n + ")", NONE, x -> x.sessions(n, 5));
        }
        withoutCanton("sessions(1)", NONE, NO_STATUS, x -> x.sessions(1, 5));
        withoutCanton("sessions(20)", NONE, NO_STATUS, x -> x.sessions(20, 5));
    }

    /** Promises 19, 20 and 21. */
    private static void undoAndLog() {
        for (int what : new int[] {-1, 5, MIN, MAX}) {
            everywhere("status(" + what + ")", NONE, x -> x.status(what));
        }
        withoutCanton("undo()", NONE, NO_STATUS, x -> x.undo());
        refused("top", "undo() of none", NONE, NO_STATUS, x -> x.undo());
        withoutCanton("log(0, 0)", HIDDEN, NO_STATUS, x -> x.log(0, 0));
        for (int wrong : new int[] {-1, 60, MIN, MAX}) {
            everywhere("log(" + wrong + ", 0)", HIDDEN, x -> x.log(wrong, 0));
        }
        for (int wrong : new int[] {-1, 3, MIN, MAX}) {
            everywhere("log(0, " + wrong + ")", HIDDEN, x -> x.log(0, wrong));
        }
        refused("top", "log(0, 0) of none", HIDDEN, NO_STATUS, x -> x.log(0, 0));
        refused("road", "log(2, 0) of two", HIDDEN, NO_STATUS, x -> x.log(2, 0));
    }

    /** Promises 22 and 23. */
    private static void aheadOfIt() {
        for (int what = 0; what < 3; what++) {
            int w = what;
            withoutCanton("ends(" + what + ")", NONE, NO_STATUS, x -> x.ends(w));
        }
        for (int what : new int[] {-1, 3, MIN, MAX}) {
            everywhere("ends(" + what + ")", NONE, x -> x.ends(what));
        }
        withoutCanton("ahead(0)", NONE, NO_STATUS, x -> x.ahead(0));
        withoutCanton("ahead(20)", NONE, NO_STATUS, x -> x.ahead(20));
        for (int n : new int[] {-1, 21, MIN, MAX}) {
            everywhere("ahead(" + n + ")", NONE, x -> x.ahead(n));
        }
    }

    /** Promises 24, 25 and 26. */
    private static void turns() {
        for (int what = 0; what < 2; what++) {
            int w = what;
            for (int side = 0; side < 3; side++) {
                int s = side;
                withoutCanton("turn(" + side + ", " + what + ")", NONE, NO_STATUS, x -> x.turn(s, w));
                withoutCanton("seating(" + side + ", " + what + ")", NONE, NO_STATUS, x -> x.seating(s, w));
            }
            refused("last", "turn: there is none, " + what, NONE, NO_STATUS, x -> x.turn(0, w));
            refused("last", "seating: there is none, " + what, NONE, NO_STATUS, x -> x.seating(0, w));
            for (int side : new int[] {-1, 3, MIN, MAX}) {
                everywhere("turn(" + side + ", " + what + ")", NONE, x -> x.turn(side, w));
                everywhere("seating(" + side + ", " + what + ")", NONE, x -> x.seating(side, w));
            }
        }
        for (int what : new int[] {-1, 2, MIN, MAX}) {
            everywhere("turn(2, " + what + ")", NONE, x -> x.turn(2, what));
            everywhere("seating(2, " + what + ")", NONE, x -> x.seating(2, what));
        }
        withoutCanton("power(0)", NONE, NO_STATUS, x -> x.power(0));
        for (int member : new int[] {-1, 6, MIN, MAX}) {
            everywhere("power(" + member + ")", NONE, x -> x.power(member));
        }
        refused("road", "power of the fourth of three", NONE, NO_STATUS, x -> x.power(3));
    }

    /** Promises 27 and 28. */
    private static void games() {
        withoutCanton("game", HIDDEN, NO_STATUS, x -> x.game(0, 1, 1, 1, 0));
        withoutCanton("rests", NONE, NO_STATUS, x -> x.rests(0, 1, -1));
        for (int wrong : new int[] {-1, 6, MIN, MAX}) {
            everywhere("game of the one " + wrong, HIDDEN, x -> x.game(wrong, 1, 1, 1, 0));
            everywhere("game of the other " + wrong, HIDDEN, x -> x.game(0, wrong, 1, 1, 1));
            everywhere("rests of the one " + wrong, NONE, x -> x.rests(wrong, 1, -1));
            everywhere("rests of the other " + wrong, NONE, x -> x.rests(0, wrong, -1));
        }
        refused("road", "game of the fourth of three", HIDDEN, NO_STATUS, x -> x.game(3, 0, 1, 1, 0));
        refused("road", "game with the fourth of three", HIDDEN, NO_STATUS, x -> x.game(0, 3, 1, 1, 0));
        refused("road", "rests of the fourth of three", NONE, NO_STATUS, x -> x.rests(3, 0, 0));
        refused("road", "rests with the fourth of three", NONE, NO_STATUS, x -> x.rests(0, 3, 0));
        everywhere("game alike", HIDDEN, x -> x.game(1, 1, 1, 1, 0));
        everywhere("rests alike", NONE, x -> x.rests(1, 1, -1));
        everywhere("rests alike, the first", NONE, x -> x.rests(0, 0, 0));
        for (int wrong : new int[] {-1, 3, MIN, MAX}) {
            everywhere("game by x " + wrong, HIDDEN, x -> x.game(0, 1, wrong, 1, 0));
            everywhere("game by y " + wrong, HIDDEN, x -> x.game(0, 1, 1, wrong, 0));
        }
        for (int what : new int[] {-1, 2, MIN, MAX}) {
            everywhere("game, what " + what, HIDDEN, x -> x.game(0, 1, 1, 1, what));
        }
        for (int i : new int[] {-2, 9, MIN, MAX}) {
            everywhere("no such rest, " + i, NONE, x -> x.rests(0, 1, i));
        }
        for (String state : new String[] {"top", "road", "last", "fallen", "full"}) {
            refused(state, "the one behind the last rest", NONE, NO_STATUS, x -> x.rests(0, 1, x.rests(0, 1, -1)));
        }
    }

    /** Promise 29. */
    private static void knowing() {
        withoutCanton("knows(0, 0)", NONE, NO_STATUS, x -> x.knows(0, 0));
        for (int wrong : new int[] {-1, 6, MIN, MAX}) {
            everywhere("knows(" + wrong + ", 0)", NONE, x -> x.knows(wrong, 0));
            everywhere("knows(0, " + wrong + ")", NONE, x -> x.knows(0, wrong));
        }
        refused("top", "the fourth of three", NONE, NO_STATUS, x -> x.knows(3, 0));
        refused("top", "the third of two bumps", NONE, NO_STATUS, x -> x.knows(0, 2));
        refused("road", "off the sledge", NONE, NO_STATUS, x -> x.knows(0, 0));
        refused("road", "strewn", NONE, NO_STATUS, x -> x.knows(1, 1));
        refused("road", "not ahead of the row", NONE, NO_STATUS, x -> x.knows(1, 0));
        refused("last", "behind it", NONE, NO_STATUS, x -> x.knows(1, 0));
    }

    /** Promises 30 and 31. */
    private static void straw() {
        for (int k = 0; k < 4; k++) {
            int bumps = k;
            withoutCanton("straw(" + k + ", -1)", NONE, NO_STATUS, x -> x.straw(bumps, -1));
            everywhere("no such set of " + k, NONE, x -> x.straw(bumps, 20));
            everywhere("no such set of " + k, NONE, x -> x.straw(bumps, -2));
            everywhere("no such set of " + k, NONE, x -> x.straw(bumps, MIN));
            everywhere("no such set of " + k, NONE, x -> x.straw(bumps, MAX));
            refused("road", "behind the last of " + k, NONE, NO_STATUS, x -> x.straw(bumps, x.straw(bumps, -1)));
        }
        for (int k : new int[] {-1, 4, MIN, MAX}) {
            everywhere("straw(" + k + ", -1)", NONE, x -> x.straw(k, -1));
            everywhere("straw(" + k + ", 0)", NONE, x -> x.straw(k, 0));
        }
        withoutCanton("fewest()", NONE, NO_STATUS, x -> x.fewest());
    }

    /** Promises 32, 33 and 34. */
    private static void track() {
        withoutCanton("seen(1, 0)", NONE, NO_STATUS, x -> x.seen(1, 0, true));
        for (int row : new int[] {-1, 0, 21, MIN, MAX}) {
            everywhere("seen in row " + row, NONE, x -> x.seen(row, 2, true));
        }
        for (int column : new int[] {-1, 5, MIN, MAX}) {
            everywhere("seen in column " + column, NONE, x -> x.seen(1, column, false));
        }
        refused("full", "an eleventh", NONE, NO_STATUS, x -> x.seen(1, 2, true));
        for (int g = 1; g < 6; g++) {
            int more = g;
            withoutCanton("who(" + g + ", -1)", NONE, NO_STATUS, x -> x.who(more, -1));
            withoutCanton("best(" + g + ")", NONE, NO_STATUS, x -> x.best(more));
            everywhere("no such one by " + g, NONE, x -> x.who(more, 7));
            everywhere("no such one by " + g, NONE, x -> x.who(more, -2));
            everywhere("no such one by " + g, NONE, x -> x.who(more, MIN));
            everywhere("no such one by " + g, NONE, x -> x.who(more, MAX));
            refused("top", "behind the last by " + g, NONE, NO_STATUS, x -> x.who(more, x.who(more, -1)));
        }
        for (int g : new int[] {-1, 0, 6, MIN, MAX}) {
            everywhere("who(" + g + ", -1)", NONE, x -> x.who(g, -1));
            everywhere("who(" + g + ", 0)", NONE, x -> x.who(g, 0));
            everywhere("best(" + g + ")", NONE, x -> x.best(g));
        }
    }

    /** Promises 35 to 39. */
    private static void oddsAndShares() {
        for (int side = 0; side < 3; side++) {
            int s = side;
            withoutCanton("odds(" + side + ", 0)", NONE, NO_STATUS, x -> x.odds(s, 0));
        }
        for (int side : new int[] {-1, 3, MIN, MAX}) {
            everywhere("odds(" + side + ", 50)", NONE, x -> x.odds(side, 50));
        }
        for (int chance : new int[] {-1, 101, MIN, MAX}) {
            everywhere("odds(2, " + chance + ")", NONE, x -> x.odds(2, chance));
        }
        withoutCanton("shares(0, 0)", NONE, NO_STATUS, x -> x.shares(0, 0));
        for (int member : new int[] {-1, 6, MIN, MAX}) {
            everywhere("shares(" + member + ", 0)", NONE, x -> x.shares(member, 0));
            everywhere("stays(" + member + ")", NONE, x -> x.stays(member));
        }
        refused("road", "the share of the fourth of three", NONE, NO_STATUS, x -> x.shares(3, 1));
        for (int c : new int[] {-1, 1000, MIN, MAX}) {
            everywhere("shares(0, " + c + ")", NONE, x -> x.shares(0, c));
        }
        for (int what = 0; what < 3; what++) {
            int w = what;
            withoutCanton("most(" + what + ")", NONE, NO_STATUS, x -> x.most(w));
        }
        for (int what : new int[] {-1, 3, MIN, MAX}) {
            everywhere("most(" + what + ")", NONE, x -> x.most(what));
        }
        refused("fallen", "the heaviest of nobody", NONE, NO_STATUS, x -> x.most(0));
        withoutCanton("stays(0)", NONE, NO_STATUS, x -> x.stays(0));
        refused("road", "stays(0), who is off the sledge", NONE, NO_STATUS, x -> x.stays(0));
        refused("road", "stays of the fourth of three", NONE, NO_STATUS, x -> x.stays(3));
        withoutCanton("met()", NONE, NO_STATUS, x -> x.met());
    }

    /** Promises 40 and 41. */
    private static void images() {
        withoutCanton("image()", NONE, NO_STATUS, x -> x.image());
        withoutCanton("back()", NONE, NO_STATUS, x -> x.back());
        refused("top", "back() without an image", NONE, NO_STATUS, x -> x.back());
    }

    /** Promise 42. */
    private static void counts() {
        for (int what : new int[] {-1, 14, MIN, MAX}) {
            everywhere("count(" + what + ")", HIDDEN, x -> x.count(what));
        }
    }

    private static void asked(String name, Call call) {
        for (String state : STATES) {
            SledgeVote x = make(state);
            long answer = call.on(x);
            CHECKS.due(name + " of " + state + " once more", call.on(x), answer);
            refused(state, name, answer, NO_STATUS, call);
        }
    }

    /** What is only asked changes nothing. */
    private static void asked() {
        asked("fault(0)", x -> x.fault(0));
        asked("fault(1)", x -> x.fault(1));
        for (int what = 0; what < 3; what++) {
            int w = what;
            asked("ends(" + what + ")", x -> x.ends(w));
            asked("turn(" + what + ", 0)", x -> x.turn(w, 0));
            asked("turn(" + what + ", 1)", x -> x.turn(w, 1));
            asked("seating(" + what + ", 0)", x -> x.seating(w, 0));
            asked("seating(" + what + ", 1)", x -> x.seating(w, 1));
            asked("odds(" + what + ", 30)", x -> x.odds(w, 30));
            asked("most(" + what + ")", x -> x.most(w));
            asked("log(0, " + what + ")", x -> x.log(0, w));
            asked("power(" + what + ")", x -> x.power(w));
            asked("stays(" + what + ")", x -> x.stays(w));
            asked("shares(" + what + ", 999)", x -> x.shares(w, 999));
            asked("straw(" + what + ", -1)", x -> x.straw(w, -1));
            asked("straw(" + what + ", 0)", x -> x.straw(w, 0));
            asked("knows(" + what + ", 0)", x -> x.knows(w, 0));
            asked("game by " + what, x -> x.game(0, 1, w, 2 - w, w % 2));
            asked("rests(0, 1, " + (what - 1) + ")", x -> x.rests(0, 1, w - 1));
            asked("who(3, " + (what - 1) + ")", x -> x.who(3, w - 1));
            asked("best(" + (what + 1) + ")", x -> x.best(w + 1));
        }
        asked("ahead(0)", x -> x.ahead(0));
        asked("ahead(20)", x -> x.ahead(20));
        asked("sum()", x -> x.sum());
        asked("member(0, 6)", x -> Whole.member(x, 0, 6));
        asked("fewest()", x -> x.fewest());
        asked("met()", x -> x.met());
    }
}
