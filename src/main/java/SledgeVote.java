import java.util.Arrays;
import java.util.NoSuchElementException;

/**
 * A toboggan parliament: a run told as a text, one long sledge whose members lean it down to the
 * church, and what can be told ahead of how it will go.
 */
public final class SledgeVote {
    public static final int NONE = -1;
    public static final int HIDDEN = -1000000;

    private static final int NO_SUCH_SORT = -2;
    private static final int MOST_MEMBERS = 6;
    private static final int MOST_BUMPS = 6;
    private static final int MOST_LAWS = 4;
    private static final int MOST_ROWS = 20;
    private static final int MOST_COLUMNS = 9;
    private static final int MOST_HEELS = 9;
    private static final int MOST_SESSIONS = 20;

    private static final int REFUSED_NONE_SUCH = 0;
    private static final int REFUSED_BOUNDS = 1;
    private static final int REFUSED_IS_SO = 2;
    private static final int REFUSED_NO_STRAW = 3;
    private static final int REFUSED_PLACE = 4;

    private final Tape tape;
    private final CantonReader cantonReader;
    private final LawReader lawReader;
    private final Law[] laws;
    private int lawCount;
    private int heldLaw;
    private Canton canton;
    private Canton spare;
    private final State now;
    private final Slope slope;
    private final History history;
    private final Outlook outlook;
    private final Track track;
    private final int[] refusals;
    private int dogsNow;
    private long drawn;

    public SledgeVote() {
        tape = new Tape();
        cantonReader = new CantonReader(tape);
        lawReader = new LawReader(tape);
        laws = new Law[MOST_LAWS];
        heldLaw = NONE;
        canton = new Canton();
        spare = new Canton();
        now = new State();
        slope = new Slope(canton);
        history = new History();
        outlook = new Outlook(slope);
        track = new Track(slope);
        refusals = new int[REFUSED_PLACE + 1];
    }

    public int feed(int a, int b, int c, int d, int e) {
        int more = Tape.signsIn(a) + Tape.signsIn(b) + Tape.signsIn(c) + Tape.signsIn(d) + Tape.signsIn(e);
        if (tape.length + more > Tape.ROOM) {
            return NONE;
        }
        tape.take(a);
        tape.take(b);
        tape.take(c);
        tape.take(d);
        tape.take(e);
        return tape.length;
    }

    public boolean end(int n) {
        if (n < 0 || n > tape.length) {
            return false;
        }
        tape.length = n;
        return true;
    }

    public int fault(int sort) {
        if (sort == 0) {
            return cantonReader.read(spare);
        }
        return sort == 1 ? lawReader.read() : NO_SUCH_SORT;
    }

    public int text(int sort) {
        if (sort == 0 && cantonReader.read(spare) == NONE) {
            return takeCanton();
        }
        if (sort == 1 && lawCount < MOST_LAWS && lawReader.read() == NONE) {
            return takeLaw();
        }
        return NONE;
    }

    public int rule(int what) {
        if (!hasCanton() || what < 0 || what > Canton.STRAW) {
            return NONE;
        }
        return what == Canton.STRAW ? now.strawLeft : canton.rules[what];
    }

    public int bump(int bump, int what) {
        if (!isBump(bump) || what < 0 || what > Canton.PARTS) {
            return NONE;
        }
        return what == Canton.PARTS ? now.strewn >> bump & 1 : canton.ofBump(bump, what);
    }

    public int member(int member, int what) throws NoSuchElementException {
        if (!isMember(member) || what < 0 || what > 6) {
            throw new NoSuchElementException("no such member, or nothing of that number to tell");
        }
        switch (what) {
            case 0:
                return now.weightOf(member);
            case 1:
                return now.leanOf(member);
            case 2:
                return now.heelsOf(member);
            case 3:
                return canton.sightOf(member);
            case 4:
                return now.seatOf(member);
            case 5:
                return now.isAboard(member) ? 1 : 0;
            default:
                return slope.pushOf(now, member);
        }
    }

    public boolean law(int law) {
        if (law < NONE || law >= lawCount) {
            return false;
        }
        heldLaw = law;
        slope.law = law == NONE ? null : laws[law];
        return true;
    }

    public int sum() {
        return hasCanton() ? slope.sumOf(now) : HIDDEN;
    }

    public int lean(int member, int to) {
        if (!isMember(member)) {
            return refuse(REFUSED_NONE_SUCH);
        }
        if (to < 0 || to > 2) {
            return refuse(REFUSED_BOUNDS);
        }
        int before = now.leanOf(member);
        if (before == to) {
            return refuse(REFUSED_IS_SO);
        }
        history.keepAct(now);
        now.leans = State.with(now.leans, member, to);
        return before;
    }

    public int change(int one, int other) {
        if (!isMember(one) || !isMember(other)) {
            return refuse(REFUSED_NONE_SUCH);
        }
        if (one == other) {
            return refuse(REFUSED_IS_SO);
        }
        history.keepAct(now);
        now.swapSeats(one, other);
        return now.seatOf(one);
    }

    public int heel(int member) {
        if (!isMember(member)) {
            return refuse(REFUSED_NONE_SUCH);
        }
        int before = now.heelsOf(member);
        if (before >= MOST_HEELS) {
            return refuse(REFUSED_IS_SO);
        }
        history.keepAct(now);
        now.heels = State.with(now.heels, member, before + 1);
        return before + 1;
    }

    public int strew(int bump) {
        if (!isBump(bump)) {
            return refuse(REFUSED_NONE_SUCH);
        }
        if ((now.strewn >> bump & 1) == 1) {
            return refuse(REFUSED_IS_SO);
        }
        if (now.strawLeft <= 0) {
            return refuse(REFUSED_NO_STRAW);
        }
        history.keepAct(now);
        now.strewn |= 1 << bump;
        now.strawLeft--;
        return now.strawLeft;
    }

    public int rows(int n) {
        if (!hasCanton()) {
            return refuse(REFUSED_NONE_SUCH);
        }
        if (n < 1 || n > MOST_ROWS) {
            return refuse(REFUSED_BOUNDS);
        }
        if (now.row + n > canton.lastRow()) {
            return refuse(REFUSED_PLACE);
        }
        for (int i = 0; i < n; i++) {
            history.keepAct(now);
            goARow();
        }
        return now.column;
    }

    public int walk() {
        if (!hasCanton()) {
            return refuse(REFUSED_NONE_SUCH);
        }
        if (now.row < canton.lastRow()) {
            return refuse(REFUSED_PLACE);
        }
        history.keepAct(now);
        now.walkBack(canton);
        return now.walks;
    }

    public boolean dogs(int v) {
        if (v < 0 || v > 9 || v == dogsNow) {
            return false;
        }
        dogsNow = v;
        return true;
    }

    public int sessions(int n, long seed) {
        if (!hasCanton() || n < 1 || n > MOST_SESSIONS) {
            return NONE;
        }
        drawn = seed;
        for (int i = 0; i < n; i++) {
            history.keepAct(now);
            holdSession();
        }
        return now.column;
    }

    public int status(int what) {
        return what < 0 || what >= refusals.length ? NONE : refusals[what];
    }

    public int undo() {
        if (history.acts == 0) {
            return NONE;
        }
        history.takeActBack(now);
        return history.acts;
    }

    public int log(int i, int what) {
        if (i < 0 || i >= history.lengthOfLog(now) || what < 0 || what > 2) {
            return HIDDEN;
        }
        int entry = history.entryAt(now, i);
        if (what == 0) {
            return History.columnIn(entry);
        }
        return what == 1 ? History.sumIn(entry) : History.fallenIn(entry);
    }

    public int ends(int what) {
        return hasCanton() && what >= 0 && what <= 2 ? outlook.atEnd(now, what) : NONE;
    }

    public int ahead(int n) {
        return hasCanton() && n >= 0 && n <= MOST_ROWS ? outlook.columnAfter(now, n) : NONE;
    }

    public int turn(int side, int what) {
        if (!hasCanton() || !isSide(side) || what < 0 || what > 1) {
            return NONE;
        }
        outlook.searchLeans(now, side);
        return what == 0 ? outlook.fewestMoved : outlook.fewestRow;
    }

    public int seating(int side, int what) {
        if (!hasCanton() || !isSide(side) || what < 0 || what > 1) {
            return NONE;
        }
        outlook.searchSeats(now, side);
        return what == 0 ? outlook.fewestMoved : outlook.fewestRow;
    }

    public int power(int member) {
        return isMember(member) ? outlook.turnedBy(now, member) : NONE;
    }

    public int game(int one, int other, int x, int y, int what) {
        if (!isMember(one) || !isMember(other) || one == other) {
            return HIDDEN;
        }
        if (x < 0 || x > 2 || y < 0 || y > 2 || what < 0 || what > 1) {
            return HIDDEN;
        }
        outlook.playAll(now, one, other);
        return outlook.gainOf(what, x, y);
    }

    public int rests(int one, int other, int i) {
        if (!isMember(one) || !isMember(other) || one == other) {
            return NONE;
        }
        outlook.playAll(now, one, other);
        outlook.listRests();
        return outlook.found.pick(i);
    }

    public int knows(int member, int bump) {
        if (!isMember(member) || !isBump(bump) || !now.isAboard(member)) {
            return NONE;
        }
        if ((now.strewn >> bump & 1) == 1) {
            return NONE;
        }
        return outlook.rowOfKnowing(now, member, canton.ofBump(bump, Canton.BUMP_ROW));
    }

    public int straw(int k, int i) {
        if (!hasCanton() || k < 0 || k > Outlook.MOST_STRAW) {
            return NONE;
        }
        outlook.listStraw(now, k, k);
        return outlook.found.pick(i);
    }

    public int fewest() {
        if (!hasCanton()) {
            return NONE;
        }
        outlook.listStraw(now, 0, MOST_BUMPS);
        return outlook.found.ofFewestBits();
    }

    public int seen(int row, int column, boolean is) {
        if (!hasCanton() || row < 1 || row > MOST_ROWS) {
            return NONE;
        }
        if (column < 0 || column >= canton.rules[Canton.WIDTH] || track.held >= Track.ROOM) {
            return NONE;
        }
        track.tell(row, column, is);
        return track.held;
    }

    public int who(int g, int i) {
        if (!hasCanton() || g < 1 || g > Track.MOST_HEAVIER) {
            return NONE;
        }
        track.listFitting(g);
        return track.found.pick(i);
    }

    public int best(int g) {
        if (!hasCanton() || g < 1 || g > Track.MOST_HEAVIER) {
            return NONE;
        }
        track.listFitting(g);
        return track.rowToLookAt();
    }

    public int odds(int side, int chance) {
        if (!hasCanton() || !isSide(side) || chance < 0 || chance > 100) {
            return NONE;
        }
        return outlook.partsEnding(now, side, chance);
    }

    public int shares(int member, int c) {
        if (!isMember(member) || c < 0 || c > 999) {
            return NONE;
        }
        int all = outlook.weightLeaning(now, 0) + outlook.weightLeaning(now, 1) + outlook.weightLeaning(now, 2);
        return now.isAboard(member) && all > 0 ? c * now.weightOf(member) / all : 0;
    }

    public int most(int what) {
        if (!hasCanton()) {
            return NONE;
        }
        switch (what) {
            case 0:
                return outlook.heaviest(now);
            case 1:
                return outlook.moderates(now);
            case 2:
                return 1 + Integer.compare(outlook.weightLeaning(now, 2), outlook.weightLeaning(now, 0));
            default:
                return NONE;
        }
    }

    public int stays(int member) {
        return isMember(member) && now.isAboard(member) ? outlook.heelsToStay(now, member) : NONE;
    }

    public int met() {
        return hasCanton() ? outlook.bumpsAhead(now) : NONE;
    }

    public int image() {
        if (!hasCanton()) {
            return NONE;
        }
        history.keepImage(now);
        return now.row;
    }

    public int back() {
        if (!history.hasImage) {
            return NONE;
        }
        history.giveImageBack(now);
        return now.row;
    }

    public int count(int what) {
        switch (what) {
            case 0:
                return canton.memberCount;
            case 1:
                return canton.bumpCount;
            case 2:
                return lawCount;
            case 3:
                return tape.length;
            case 4:
                return heldLaw;
            case 5:
                return now.row;
            case 6:
                return now.column;
            case 7:
                return now.aboard;
            case 8:
                return now.walks;
            case 9:
                return dogsNow;
            case 10:
                return track.held;
            case 11:
                return canton.ice;
            case 12:
                return history.lengthOfLog(now);
            case 13:
                return history.acts;
            default:
                return HIDDEN;
        }
    }

    // A canton that was told has a member at least; the one that a new object holds has none.
    private boolean hasCanton() {
        return canton.memberCount > 0;
    }

    private boolean isMember(int member) {
        return member >= 0 && member < canton.memberCount;
    }

    private boolean isBump(int bump) {
        return bump >= 0 && bump < canton.bumpCount;
    }

    private static boolean isSide(int side) {
        return side >= 0 && side <= 2;
    }

    private int refuse(int why) {
        refusals[why]++;
        return NONE;
    }

    // The one that was read and the one ahead change places, so that no canton is made anew.
    private int takeCanton() {
        Canton told = spare;
        spare = canton;
        canton = told;
        slope.canton = told;
        now.begin(told);
        history.forget();
        track.held = 0;
        tape.length = 0;
        return canton.memberCount;
    }

    private int takeLaw() {
        laws[lawCount] = lawReader.make();
        tape.length = 0;
        lawCount++;
        return lawCount - 1;
    }

    private void goARow() {
        slope.step(now);
        history.noteRow(now, slope.lastSum, slope.lastFallen);
    }

    private int draw(int j) {
        drawn = drawn * 6364136223846793005L + 1442695040888963407L;
        return j < 1 ? 0 : (int) ((drawn >>> 33) % j);
    }

    private void holdSession() {
        if (now.row >= canton.lastRow()) {
            now.walkBack(canton);
        }
        for (int m = 0; m < canton.memberCount; m++) {
            now.leans = State.with(now.leans, m, draw(3));
        }
        if (draw(10) < dogsNow) {
            int one = draw(canton.memberCount);
            int other = draw(canton.memberCount);
            if (one != other) {
                now.swapSeats(one, other);
            }
        }
        for (int r = now.row; r < canton.lastRow(); r++) {
            goARow();
        }
    }

    /** The bytes that were fed and not yet taken as a text. */
    private static final class Tape {
        static final int ROOM = 240;
        final char[] signs = new char[ROOM];
        int length;

        static int signsIn(int number) {
            int n = 0;
            for (int shift = 24; shift >= 0; shift -= 8) {
                if ((number >> shift & 255) != 0) {
                    n++;
                }
            }
            return n;
        }

        void take(int number) {
            for (int shift = 24; shift >= 0; shift -= 8) {
                int sign = number >> shift & 255;
                if (sign != 0 && length < ROOM) {
                    signs[length] = (char) sign;
                    length++;
                }
            }
        }

        int behindBlanks(int from) {
            int at = from;
            for (int i = from; i < length && signs[i] == ' '; i++) {
                at = i + 1;
            }
            return at;
        }

        // No sign on the tape is 0, so 0 tells its end.
        int signAt(int at) {
            return at >= 0 && at < length ? signs[at] : 0;
        }

        boolean isDigitAt(int at) {
            return at >= 0 && at < length && signs[at] >= '0' && signs[at] <= '9';
        }
    }

    /** A canton as it was told; a draft while its text is read. */
    private static final class Canton {
        static final int WIDTH = 0;
        static final int TOP = 1;
        static final int GRIP = 2;
        static final int ROWS = 3;
        static final int STRAW = 4;
        static final int PARTS = 4;
        static final int BUMP_ROW = 0;
        static final int BUMP_COLUMN = 1;
        static final int BUMP_KICK = 2;
        static final int BUMP_SIDE = 3;
        static final int WEIGHT = 0;
        static final int LEAN = 1;
        static final int HEELS = 2;
        static final int SIGHT = 3;

        final int[] rules = new int[STRAW + 1];
        final int[] bumps = new int[MOST_BUMPS * PARTS];
        final int[] members = new int[MOST_MEMBERS * PARTS];
        int bumpCount;
        int memberCount;
        int ice;
        boolean iceTwice;

        int lastRow() {
            return rules[ROWS];
        }

        int ofBump(int bump, int what) {
            return bumps[bump * PARTS + what];
        }

        int ofMember(int member, int what) {
            return members[member * PARTS + what];
        }

        int sightOf(int member) {
            return members[member * PARTS + SIGHT];
        }

        int bumpAt(int row, int column) {
            for (int b = 0; b < bumpCount; b++) {
                if (ofBump(b, BUMP_ROW) == row && ofBump(b, BUMP_COLUMN) == column) {
                    return b;
                }
            }
            return NONE;
        }

        void clear() {
            bumpCount = 0;
            memberCount = 0;
            ice = 0;
            iceTwice = false;
        }

        void addBump(int[] values) {
            if (bumpCount < MOST_BUMPS && values.length >= PARTS) {
                System.arraycopy(values, 0, bumps, bumpCount * PARTS, PARTS);
                bumpCount++;
            }
        }

        void addMember(int[] values) {
            if (memberCount < MOST_MEMBERS && values.length >= PARTS) {
                System.arraycopy(values, 0, members, memberCount * PARTS, PARTS);
                memberCount++;
            }
        }

        void addIce(int row) {
            iceTwice = iceTwice || (ice >> row & 1) == 1;
            ice |= 1 << row;
        }

        // What only the whole text can tell.
        boolean isSound() {
            if (memberCount == 0 || iceTwice || rules[TOP] >= rules[WIDTH]) {
                return false;
            }
            for (int b = 0; b < bumpCount; b++) {
                int column = ofBump(b, BUMP_COLUMN);
                if (column >= rules[WIDTH] || bumpAt(ofBump(b, BUMP_ROW), column) != b) {
                    return false;
                }
            }
            return true;
        }
    }

    /** Reads the tape as a canton. */
    private static final class CantonReader {
        private static final int RULES = 0;
        private static final int BUMP = 1;
        private static final int ICE = 2;
        private static final String KINDS = "sbim";
        private static final int[] MOST_OF_KIND = {1, 6, 4, 6};
        // The items of all kinds in one row: those of kind k from FIRST[k] on, ahead of FIRST[k + 1].
        private static final int[] FIRST = {0, 5, 9, 10, 14};
        private static final String LETTERS = "wogryrckdrwlhs";
        private static final int[] LOW = {3, 0, 1, 1, 0, 1, 0, 1, 0, 0, 1, 0, 0, 0};
        private static final int[] HIGH = {9, 8, 60, 20, 9, 20, 8, 9, 1, 19, 9, 2, 9, 9};
        private static final int[] USUAL = {5, 2, 6, 10, 3, 1, 0, 3, 0, 0, 3, 1, 3, 2};

        private final Tape tape;
        private final int[] values = new int[Canton.STRAW + 1];
        private final int[] clauses = new int[4];
        private int at;

        CantonReader(Tape tape) {
            this.tape = tape;
        }

        /** The fault, NONE without; the draft is a canton then. */
        int read(Canton draft) {
            draft.clear();
            System.arraycopy(USUAL, 0, draft.rules, 0, draft.rules.length);
            Arrays.fill(clauses, 0);
            at = 0;
            for (int n = 0; n <= Tape.ROOM; n++) {
                if (!readClause(draft)) {
                    return at;
                }
                if (at >= tape.length) {
                    return draft.isSound() ? NONE : tape.length;
                }
                at++;
            }
            return at;
        }

        // Stops behind the clause: at its ; or at the end. False: the fault is where it stops.
        private boolean readClause(Canton draft) {
            at = tape.behindBlanks(at);
            int sign = tape.signAt(at);
            int kind = sign == 0 ? NONE : KINDS.indexOf((char) sign);
            if (kind < 0 || clauses[kind] >= MOST_OF_KIND[kind]) {
                return false;
            }
            clauses[kind]++;
            at++;
            System.arraycopy(USUAL, FIRST[kind], values, 0, FIRST[kind + 1] - FIRST[kind]);
            if (!readItems(kind)) {
                return false;
            }
            if (kind == RULES) {
                System.arraycopy(values, 0, draft.rules, 0, draft.rules.length);
            } else if (kind == BUMP) {
                draft.addBump(values);
            } else if (kind == ICE) {
                draft.addIce(values[0]);
            } else {
                draft.addMember(values);
            }
            return true;
        }

        private boolean readItems(int kind) {
            int told = 0;
            for (int n = 0; n <= Tape.ROOM; n++) {
                at = tape.behindBlanks(at);
                int sign = tape.signAt(at);
                if (sign == 0 || sign == ';') {
                    return true;
                }
                int item = itemOf(kind, sign);
                if (item == NONE || (told >> item & 1) == 1) {
                    return false;
                }
                told |= 1 << item;
                at++;
                if (!readNumber(kind, item)) {
                    return false;
                }
            }
            return false;
        }

        private static int itemOf(int kind, int sign) {
            for (int i = FIRST[kind]; i < FIRST[kind + 1]; i++) {
                if (LETTERS.charAt(i) == sign) {
                    return i - FIRST[kind];
                }
            }
            return NONE;
        }

        private boolean readNumber(int kind, int item) {
            at = tape.behindBlanks(at);
            if (!tape.isDigitAt(at)) {
                return false;
            }
            int number = tape.signAt(at) - '0';
            at++;
            if (tape.isDigitAt(at)) {
                number = number * 10 + tape.signAt(at) - '0';
                at++;
            }
            if (tape.isDigitAt(at)) {
                return false;
            }
            int place = FIRST[kind] + item;
            if (number < LOW[place] || number > HIGH[place]) {
                at--;
                return false;
            }
            values[item] = number;
            return true;
        }
    }

    /** Reads the tape as a law and writes its steps down, operands ahead of what joins them. */
    private static final class LawReader {
        private static final int MOST_WITHIN = 6;
        private static final int MOST_DIGITS = 4;

        private final Tape tape;
        // A sign writes one step at most, and each clause has two signs that write none.
        private final int[] steps = new int[Tape.ROOM + 1];
        private int stepCount;
        private int at;

        LawReader(Tape tape) {
            this.tape = tape;
        }

        /** The fault, NONE without. */
        int read() {
            at = 0;
            stepCount = 0;
            for (int n = 0; n <= Tape.ROOM; n++) {
                if (!readClause()) {
                    return at;
                }
                if (comingSign() == 0) {
                    return NONE;
                }
                if (!passes(';')) {
                    return at;
                }
            }
            return at;
        }

        Law make() {
            return new Law(Arrays.copyOf(steps, stepCount));
        }

        private int comingSign() {
            at = tape.behindBlanks(at);
            return tape.signAt(at);
        }

        private boolean passes(int sign) {
            if (comingSign() != sign) {
                return false;
            }
            at++;
            return true;
        }

        private void write(int sort, int value) {
            if (stepCount < steps.length) {
                steps[stepCount] = sort << Law.VALUE_BITS | value;
                stepCount++;
            }
        }

        private boolean readClause() {
            if (!passes('y') || !passes(':')) {
                return false;
            }
            int sign = comingSign();
            boolean begun = sign != '!' && sign != '(';
            if (begun && !readSum(0)) {
                return false;
            }
            if (!begun || isComparison(comingSign())) {
                if (!readCondition(0, begun) || !passes('?')) {
                    return false;
                }
                int skip = stepCount;
                write(Law.SKIP, 0);
                if (!readSum(0)) {
                    return false;
                }
                write(Law.GIVE, 0);
                if (skip < steps.length) {
                    steps[skip] |= stepCount;
                }
                return true;
            }
            write(Law.GIVE, 0);
            return true;
        }

        private static boolean isComparison(int sign) {
            return sign == '=' || sign == '<' || sign == '>';
        }

        // begun: the sum ahead of its first comparison has been read.
        private boolean readCondition(int within, boolean begun) {
            boolean fine = readTruth(within, begun);
            for (int n = 0; n < Tape.ROOM && fine && passes('|'); n++) {
                fine = readTruth(within, false);
                write(Law.OR, 0);
            }
            return fine;
        }

        private boolean readTruth(int within, boolean begun) {
            boolean fine = readUnit(within, begun);
            for (int n = 0; n < Tape.ROOM && fine && passes('&'); n++) {
                fine = readUnit(within, false);
                write(Law.AND, 0);
            }
            return fine;
        }

        private boolean readUnit(int within, boolean begun) {
            int sign = comingSign();
            if (!begun && (sign == '!' || sign == '(')) {
                if (within >= MOST_WITHIN) {
                    return false;
                }
                at++;
                if (sign == '(') {
                    return readCondition(within + 1, false) && passes(')');
                }
                boolean fine = readUnit(within + 1, false);
                write(Law.NOT, 0);
                return fine;
            }
            if (!begun && !readSum(within)) {
                return false;
            }
            int comparison = comingSign();
            if (!isComparison(comparison)) {
                return false;
            }
            at++;
            boolean fine = readSum(within);
            write(comparison == '=' ? Law.EQUAL : comparison == '<' ? Law.LESS : Law.MORE, 0);
            return fine;
        }

        private boolean readSum(int within) {
            boolean fine = readTerm(within);
            for (int n = 0; n < Tape.ROOM && fine; n++) {
                int sign = comingSign();
                if (sign != '+' && sign != '-') {
                    break;
                }
                at++;
                fine = readTerm(within);
                write(sign == '+' ? Law.PLUS : Law.MINUS, 0);
            }
            return fine;
        }

        private boolean readTerm(int within) {
            boolean fine = readAtom(within);
            for (int n = 0; n < Tape.ROOM && fine; n++) {
                int sign = comingSign();
                if (sign != '*' && sign != '/') {
                    break;
                }
                at++;
                fine = readAtom(within);
                write(sign == '*' ? Law.TIMES : Law.BY, 0);
            }
            return fine;
        }

        private boolean readAtom(int within) {
            int sign = comingSign();
            if (sign == '[') {
                if (within >= MOST_WITHIN) {
                    return false;
                }
                at++;
                return readSum(within + 1) && passes(']');
            }
            if (tape.isDigitAt(at)) {
                return readNumber();
            }
            int letter = sign == 0 ? NONE : Law.LETTERS.indexOf((char) sign);
            if (letter < 0) {
                return false;
            }
            at++;
            write(Law.LETTER, letter);
            return true;
        }

        private boolean readNumber() {
            int number = 0;
            for (int n = 0; n < MOST_DIGITS && tape.isDigitAt(at); n++) {
                number = number * 10 + tape.signAt(at) - '0';
                at++;
            }
            write(Law.NUMBER, number);
            return !tape.isDigitAt(at);
        }
    }

    /** A law as a row of steps over a stack of numbers; what holds is 1, what does not is 0. */
    private static final class Law {
        static final String LETTERS = "whpnrc";
        static final int NUMBER = 0;
        static final int LETTER = 1;
        static final int GIVE = 2;
        static final int SKIP = 3;
        static final int NOT = 4;
        static final int PLUS = 5;
        static final int MINUS = 6;
        static final int TIMES = 7;
        static final int BY = 8;
        static final int EQUAL = 9;
        static final int LESS = 10;
        static final int MORE = 11;
        static final int AND = 12;
        static final int OR = 13;
        // Six within one another leave some twenty numbers open at once at most.
        static final int STACK_ROOM = 40;
        static final int VALUE_BITS = 14;
        private static final int VALUE_MASK = 16383;
        private static final long BOUND = 1000000;

        private final int[] steps;

        Law(int[] steps) {
            this.steps = steps;
        }

        int worth(int[] letters, int[] stack) {
            int top = 0;
            for (int i = 0; i < steps.length; i++) {
                int sort = steps[i] >> VALUE_BITS;
                int value = steps[i] & VALUE_MASK;
                if (sort <= LETTER) {
                    if (top >= stack.length || sort == LETTER && value >= letters.length) {
                        return 0;
                    }
                    stack[top] = sort == NUMBER ? value : letters[value];
                    top++;
                    continue;
                }
                if (top < 1 || sort > NOT && top < 2) {
                    return 0;
                }
                int last = stack[top - 1];
                if (sort == GIVE) {
                    return last;
                }
                if (sort == SKIP) {
                    top--;
                    i = last == 0 && value > i ? value - 1 : i;
                } else if (sort == NOT) {
                    stack[top - 1] = 1 - last;
                } else {
                    top--;
                    long number = joined(sort, stack[top - 1], last);
                    stack[top - 1] = (int) (number > BOUND ? BOUND : number < -BOUND ? -BOUND : number);
                }
            }
            return 0;
        }

        private static long joined(int sort, long a, long b) {
            switch (sort) {
                case PLUS:
                    return a + b;
                case MINUS:
                    return a - b;
                case TIMES:
                    return a * b;
                case BY:
                    return b == 0 ? 0 : a / b;
                case EQUAL:
                    return a == b ? 1 : 0;
                case LESS:
                    return a < b ? 1 : 0;
                case MORE:
                    return a > b ? 1 : 0;
                case AND:
                    return a & b;
                default:
                    return a | b;
            }
        }
    }

    /** How it is at a time: what acts change. Rows of members lie in ints, four bits a member. */
    private static final class State {
        private static final int BITS = 4;
        private static final int MASK = 15;

        int weights;
        int leans;
        int heels;
        int seats;
        int aboard;
        int strewn;
        int strawLeft;
        int row;
        int column;
        int walks;
        // Rows that went by in all: the log's end, so that it is undone with the rest.
        int logged;

        static int of(int packed, int member) {
            return packed >> member * BITS & MASK;
        }

        static int with(int packed, int member, int value) {
            int shift = member * BITS;
            return packed & ~(MASK << shift) | value << shift;
        }

        int weightOf(int member) {
            return weights >> member * BITS & MASK;
        }

        int leanOf(int member) {
            return leans >> member * BITS & MASK;
        }

        int heelsOf(int member) {
            return heels >> member * BITS & MASK;
        }

        int seatOf(int member) {
            return seats >> member * BITS & MASK;
        }

        boolean isAboard(int member) {
            return (aboard >> member & 1) == 1;
        }

        void swapSeats(int one, int other) {
            int seat = seatOf(one);
            seats = with(seats, one, seatOf(other));
            seats = with(seats, other, seat);
        }

        void begin(Canton canton) {
            for (int m = 0; m < canton.memberCount; m++) {
                weights = with(weights, m, canton.ofMember(m, Canton.WEIGHT));
                leans = with(leans, m, canton.ofMember(m, Canton.LEAN));
                heels = with(heels, m, canton.ofMember(m, Canton.HEELS));
                seats = with(seats, m, m);
            }
            strewn = 0;
            strawLeft = canton.rules[Canton.STRAW];
            logged = 0;
            walkBack(canton);
            walks = 0;
        }

        void walkBack(Canton canton) {
            row = 0;
            column = canton.rules[Canton.TOP];
            aboard = (1 << canton.memberCount) - 1;
            walks++;
        }

        void copy(State other) {
            weights = other.weights;
            leans = other.leans;
            heels = other.heels;
            seats = other.seats;
            aboard = other.aboard;
            strewn = other.strewn;
            strawLeft = other.strawLeft;
            row = other.row;
            column = other.column;
            walks = other.walks;
            logged = other.logged;
        }
    }

    /** How the sledge goes, by a canton and the law that holds. */
    private static final class Slope {
        private static final int MOST_PUSH = 99;

        Canton canton;
        // Null: none holds.
        Law law;
        int lastSum;
        int lastFallen;
        // The bump, strewn or not, at which the last row was come to.
        int lastBump;
        private final int[] letters = new int[6];
        private final int[] stack = new int[Law.STACK_ROOM];

        Slope(Canton canton) {
            this.canton = canton;
        }

        int pushOf(State s, int member) {
            Law holding = law;
            if (holding == null) {
                return s.weightOf(member);
            }
            letters[0] = s.weightOf(member);
            letters[1] = s.heelsOf(member);
            letters[2] = s.seatOf(member);
            letters[3] = Integer.bitCount(s.aboard);
            letters[4] = s.row;
            letters[5] = s.column;
            int worth = holding.worth(letters, stack);
            return worth < 0 ? 0 : worth > MOST_PUSH ? MOST_PUSH : worth;
        }

        int sumOf(State s) {
            int sum = 0;
            for (int m = 0; m < canton.memberCount; m++) {
                int lean = s.leanOf(m);
                if (lean != 1 && s.isAboard(m)) {
                    sum += (lean - 1) * pushOf(s, m);
                }
            }
            return (canton.ice >> s.row & 1) == 1 ? 2 * sum : sum;
        }

        void step(State s) {
            int grip = canton.rules[Canton.GRIP];
            lastSum = sumOf(s);
            if (lastSum >= grip) {
                shift(s, 1);
            } else if (lastSum <= -grip) {
                shift(s, 0);
            }
            s.row++;
            lastFallen = 0;
            lastBump = canton.bumpAt(s.row, s.column);
            if (lastBump != NONE && (s.strewn >> lastBump & 1) == 0) {
                throwOff(s, canton.ofBump(lastBump, Canton.BUMP_KICK));
                shift(s, canton.ofBump(lastBump, Canton.BUMP_SIDE));
            }
        }

        // To the left (0) or to the right (1), if there is a column.
        private void shift(State s, int side) {
            int to = side == 0 ? s.column - 1 : s.column + 1;
            if (to >= 0 && to < canton.rules[Canton.WIDTH]) {
                s.column = to;
            }
        }

        private void throwOff(State s, int kick) {
            for (int m = 0; m < canton.memberCount; m++) {
                if (s.isAboard(m) && s.heelsOf(m) < kick) {
                    lastFallen |= 1 << m;
                }
            }
            s.aboard &= ~lastFallen;
        }

        int sideAtEnd(State s) {
            for (int r = s.row; r < canton.lastRow(); r++) {
                step(s);
            }
            int width = canton.rules[Canton.WIDTH];
            if (s.column < width / 2) {
                return 0;
            }
            return s.column > (width - 1) / 2 ? 2 : 1;
        }

        int everyone() {
            return (1 << canton.memberCount) - 1;
        }
    }

    /** What was: the log of rows, the latest acts, each by how it was ahead of it, and the image. */
    private static final class History {
        private static final int MOST_ACTS = 40;
        private static final int LOG_LENGTH = 60;
        // Forty acts of twenty rows can be undone, and sixty rows ahead of them are told again then.
        private static final int LOG_ROOM = 1024;
        private static final int SUM_SHIFT = 10;
        private static final int SUM_ZERO = 2048;

        int acts;
        boolean hasImage;
        private final int[] entries = new int[LOG_ROOM];
        private final State[] before = new State[MOST_ACTS];
        private int next;
        private final State image = new State();
        private final int[] imageEntries = new int[LOG_LENGTH];

        History() {
            for (int i = 0; i < MOST_ACTS; i++) {
                before[i] = new State();
            }
        }

        void forget() {
            acts = 0;
            hasImage = false;
        }

        void noteRow(State now, int sum, int fallen) {
            entries[now.logged & LOG_ROOM - 1] = sum + SUM_ZERO << SUM_SHIFT | fallen << 4 | now.column;
            now.logged++;
        }

        int lengthOfLog(State now) {
            return Math.min(now.logged, LOG_LENGTH);
        }

        int entryAt(State now, int i) {
            return entries[now.logged - 1 - i & LOG_ROOM - 1];
        }

        static int columnIn(int entry) {
            return entry & 15;
        }

        static int sumIn(int entry) {
            return (entry >> SUM_SHIFT) - SUM_ZERO;
        }

        static int fallenIn(int entry) {
            return entry >> 4 & 63;
        }

        void keepAct(State now) {
            before[next].copy(now);
            next = (next + 1) % MOST_ACTS;
            acts = Math.min(acts + 1, MOST_ACTS);
        }

        void takeActBack(State now) {
            if (acts > 0) {
                next = (next + MOST_ACTS - 1) % MOST_ACTS;
                now.copy(before[next]);
                acts--;
            }
        }

        void keepImage(State now) {
            image.copy(now);
            image.logged = lengthOfLog(now);
            for (int i = 0; i < image.logged; i++) {
                imageEntries[i] = entryAt(now, i);
            }
            hasImage = true;
        }

        void giveImageBack(State now) {
            now.copy(image);
            for (int i = 0; i < image.logged; i++) {
                entries[image.logged - 1 - i] = imageEntries[i];
            }
            acts = 0;
        }
    }

    /** What a call found, rising. */
    private static final class Found {
        private final int[] items;
        int size;

        Found(int room) {
            items = new int[room];
        }

        void add(int item) {
            if (size < items.length) {
                items[size] = item;
                size++;
            }
        }

        int at(int i) {
            return i >= 0 && i < size ? items[i] : NONE;
        }

        /** How many there are (i NONE), the i-th, NONE without. */
        int pick(int i) {
            return i == NONE ? size : at(i);
        }

        /** The least of those sets that have the fewest, NONE without. */
        int ofFewestBits() {
            int fewest = at(0);
            for (int i = 1; i < size; i++) {
                if (Integer.bitCount(at(i)) < Integer.bitCount(fewest)) {
                    fewest = at(i);
                }
            }
            return fewest;
        }
    }

    /** What can be told from as it is now; it goes ahead on a state of its own. */
    private static final class Outlook {
        static final int MOST_STRAW = 3;
        private static final long ALL_PARTS = 1000000000;
        private static final int NEUTRAL = 1;
        private static final int LEANS = 3;
        private static final int GAMES = 9;

        final Found found = new Found(64);
        int fewestMoved;
        int fewestRow;
        private final Slope slope;
        private final State trial = new State();
        private final int[] order = new int[MOST_MEMBERS];
        private final int[] sides = new int[1 << MOST_MEMBERS];
        private final int[] gains = new int[2 * GAMES];

        Outlook(Slope slope) {
            this.slope = slope;
        }

        int atEnd(State now, int what) {
            trial.copy(now);
            int side = slope.sideAtEnd(trial);
            if (what == 0) {
                return trial.column;
            }
            return what == 1 ? side : slope.everyone() & ~trial.aboard;
        }

        int columnAfter(State now, int n) {
            trial.copy(now);
            for (int i = 0; i < n && trial.row < slope.canton.lastRow(); i++) {
                slope.step(trial);
            }
            return trial.column;
        }

        void searchLeans(State now, int side) {
            int members = slope.canton.memberCount;
            int all = 1;
            for (int m = 0; m < members; m++) {
                all *= 3;
            }
            fewestMoved = NONE;
            fewestRow = NONE;
            for (int code = 0; code < all; code++) {
                int leans = leansOf(code, members);
                int moved = countUnlike(leans, now.leans, members);
                // Rows rise, so one that moves as many as an earlier one is never the one sought.
                if (fewestMoved == NONE || moved < fewestMoved) {
                    trial.copy(now);
                    trial.leans = leans;
                    if (slope.sideAtEnd(trial) == side) {
                        fewestMoved = moved;
                        fewestRow = rowOf(leans, members);
                    }
                }
            }
        }

        private static int leansOf(int code, int members) {
            int leans = 0;
            int rest = code;
            for (int m = members - 1; m >= 0; m--) {
                leans = State.with(leans, m, rest % 3);
                rest /= 3;
            }
            return leans;
        }

        private static int countUnlike(int one, int other, int members) {
            int unlike = 0;
            for (int m = 0; m < members; m++) {
                if (State.of(one, m) != State.of(other, m)) {
                    unlike++;
                }
            }
            return unlike;
        }

        private static int rowOf(int packed, int members) {
            int row = 0;
            for (int m = 0; m < members; m++) {
                row = row * 10 + State.of(packed, m);
            }
            return row;
        }

        void searchSeats(State now, int side) {
            int members = slope.canton.memberCount;
            int all = 1;
            for (int i = 0; i < members; i++) {
                order[i] = i;
                all *= i + 1;
            }
            fewestMoved = NONE;
            fewestRow = NONE;
            for (int n = 0; n < all; n++) {
                int seats = 0;
                int row = 0;
                for (int seat = 0; seat < members; seat++) {
                    seats = State.with(seats, order[seat], seat);
                    row = row * 10 + order[seat];
                }
                int moved = countUnlike(seats, now.seats, members);
                if (fewestMoved == NONE || moved < fewestMoved) {
                    trial.copy(now);
                    trial.seats = seats;
                    if (slope.sideAtEnd(trial) == side) {
                        fewestMoved = moved;
                        fewestRow = row;
                    }
                }
                nextOrder(members);
            }
        }

        // The next greater row of the same members; the last one stays.
        private void nextOrder(int members) {
            int i = members - 2;
            while (i >= 0 && order[i] > order[i + 1]) {
                i--;
            }
            if (i < 0) {
                return;
            }
            int j = members - 1;
            while (j > i && order[j] < order[i]) {
                j--;
            }
            swapOrder(i, j);
            for (int a = i + 1, b = members - 1; a < b; a++, b--) {
                swapOrder(a, b);
            }
        }

        private void swapOrder(int i, int j) {
            int member = order[i];
            order[i] = order[j];
            order[j] = member;
        }

        int turnedBy(State now, int member) {
            for (int set = 0; set <= slope.everyone(); set++) {
                trial.copy(now);
                for (int m = 0; m < slope.canton.memberCount; m++) {
                    trial.leans = State.with(trial.leans, m, (set >> m & 1) * 2);
                }
                sides[set] = slope.sideAtEnd(trial);
            }
            int turned = 0;
            for (int set = 0; set <= slope.everyone(); set++) {
                if ((set >> member & 1) == 0 && sides[set] != sides[set | 1 << member]) {
                    turned++;
                }
            }
            return turned;
        }

        /** Plays all games of the two: gainOf and listRests tell of these. */
        void playAll(State now, int one, int other) {
            for (int game = 0; game < GAMES; game++) {
                int x = game / LEANS;
                int y = game % LEANS;
                trial.copy(now);
                trial.leans = State.with(State.with(now.leans, one, x), other, y);
                int side = slope.sideAtEnd(trial);
                gains[game] = gainBy(side, now, one, x);
                gains[GAMES + game] = gainBy(side, now, other, y);
            }
        }

        private int gainBy(int side, State now, int member, int ownLean) {
            int gain = side == now.leanOf(member) ? 6 : 0;
            if (ownLean != NEUTRAL) {
                gain--;
            }
            return trial.isAboard(member) ? gain : gain - 2;
        }

        int gainOf(int player, int x, int y) {
            return gains[player * GAMES + x * LEANS + y];
        }

        void listRests() {
            found.size = 0;
            for (int x = 0; x < LEANS; x++) {
                for (int y = 0; y < LEANS; y++) {
                    if (isRest(x, y)) {
                        found.add(10 * x + y);
                    }
                }
            }
        }

        private boolean isRest(int x, int y) {
            for (int otherwise = 0; otherwise < LEANS; otherwise++) {
                if (gainOf(0, otherwise, y) > gainOf(0, x, y) || gainOf(1, x, otherwise) > gainOf(1, x, y)) {
                    return false;
                }
            }
            return true;
        }

        int rowOfKnowing(State now, int member, int bumpRow) {
            int earliest = bumpRow;
            for (int m = 0; m < slope.canton.memberCount; m++) {
                int seatsBack = now.seatOf(member) - now.seatOf(m);
                if (now.isAboard(m) && seatsBack >= 0) {
                    int sees = Math.max(now.row, bumpRow - slope.canton.sightOf(m));
                    earliest = Math.min(earliest, sees + seatsBack);
                }
            }
            return earliest < bumpRow ? earliest : NONE;
        }

        /** The sets of at least and at most so many bumps by which nobody more will fall. */
        void listStraw(State now, int atLeast, int atMost) {
            found.size = 0;
            int sets = 1 << slope.canton.bumpCount;
            for (int set = 0; set < sets; set++) {
                int bumps = Integer.bitCount(set);
                if (bumps >= atLeast && bumps <= atMost && (set & now.strewn) == 0) {
                    trial.copy(now);
                    trial.strewn |= set;
                    slope.sideAtEnd(trial);
                    if (trial.aboard == now.aboard) {
                        found.add(set);
                    }
                }
            }
        }

        int partsEnding(State now, int side, int chance) {
            long ending = 0;
            int mayErr = now.aboard & ~moderates(now);
            for (int wrong = 0; wrong <= mayErr; wrong++) {
                long part = (wrong & ~mayErr) == 0 ? partOf(mayErr, wrong, chance) : 0;
                if (part > 0) {
                    trial.copy(now);
                    for (int m = 0; m < slope.canton.memberCount; m++) {
                        if ((wrong >> m & 1) == 1) {
                            trial.leans = State.with(trial.leans, m, 2 - now.leanOf(m));
                        }
                    }
                    if (slope.sideAtEnd(trial) == side) {
                        ending += part;
                    }
                }
            }
            return (int) ending;
        }

        private long partOf(int mayErr, int wrong, int chance) {
            long part = ALL_PARTS;
            for (int m = 0; m < slope.canton.memberCount; m++) {
                if ((mayErr >> m & 1) == 1) {
                    long cut = part * chance / 100;
                    part = (wrong >> m & 1) == 1 ? cut : part - cut;
                }
            }
            return part;
        }

        int weightLeaning(State now, int to) {
            int weight = 0;
            for (int m = 0; m < slope.canton.memberCount; m++) {
                if (now.isAboard(m) && now.leanOf(m) == to) {
                    weight += now.weightOf(m);
                }
            }
            return weight;
        }

        int heaviest(State now) {
            int heaviest = NONE;
            for (int m = 0; m < slope.canton.memberCount; m++) {
                if (now.isAboard(m) && (heaviest == NONE || now.weightOf(m) > now.weightOf(heaviest))) {
                    heaviest = m;
                }
            }
            return heaviest;
        }

        int moderates(State now) {
            int bits = 0;
            for (int m = 0; m < slope.canton.memberCount; m++) {
                if (now.leanOf(m) == NEUTRAL) {
                    bits |= 1 << m;
                }
            }
            return bits;
        }

        int heelsToStay(State now, int member) {
            for (int heels = 0; heels <= MOST_HEELS; heels++) {
                trial.copy(now);
                trial.heels = State.with(trial.heels, member, heels);
                slope.sideAtEnd(trial);
                if (trial.isAboard(member)) {
                    return heels;
                }
            }
            return NONE;
        }

        int bumpsAhead(State now) {
            int bits = 0;
            trial.copy(now);
            for (int r = now.row; r < slope.canton.lastRow(); r++) {
                slope.step(trial);
                if (slope.lastBump != NONE) {
                    bits |= 1 << slope.lastBump;
                }
            }
            return bits;
        }
    }

    /** What was seen of the track, and whose greater weight would explain it. */
    private static final class Track {
        static final int ROOM = 10;
        static final int MOST_HEAVIER = 5;
        private static final int NOBODY = 9;
        private static final int MOST_WEIGHT = 9;

        int held;
        final Found found = new Found(MOST_MEMBERS + 1);
        private final Slope slope;
        private final State trial = new State();
        private final int[] seenRows = new int[ROOM];
        private final int[] seenColumns = new int[ROOM];
        private final boolean[] seenThere = new boolean[ROOM];
        private final int[] columns = new int[MOST_ROWS + 1];
        // How many of those that fit tell a column, by rows and columns.
        private final int[] tellers = new int[(MOST_ROWS + 1) * MOST_COLUMNS];

        Track(Slope slope) {
            this.slope = slope;
        }

        void tell(int row, int column, boolean is) {
            if (held < ROOM) {
                seenRows[held] = row;
                seenColumns[held] = column;
                seenThere[held] = is;
                held++;
            }
        }

        void listFitting(int heavier) {
            found.size = 0;
            Arrays.fill(tellers, 0);
            int members = slope.canton.memberCount;
            for (int m = 0; m <= members; m++) {
                trial.begin(slope.canton);
                if (m < members) {
                    int weight = Math.min(trial.weightOf(m) + heavier, MOST_WEIGHT);
                    trial.weights = State.with(trial.weights, m, weight);
                }
                goDown();
                if (fits()) {
                    found.add(m < members ? m : NOBODY);
                    countColumns();
                }
            }
        }

        private void goDown() {
            for (int r = 1; r <= slope.canton.lastRow() && r < columns.length; r++) {
                slope.step(trial);
                columns[r] = trial.column;
            }
        }

        private boolean fits() {
            for (int i = 0; i < held; i++) {
                int row = Math.min(seenRows[i], slope.canton.lastRow());
                if ((columns[row] == seenColumns[i]) != seenThere[i]) {
                    return false;
                }
            }
            return true;
        }

        private void countColumns() {
            for (int r = 1; r <= slope.canton.lastRow() && r < columns.length; r++) {
                tellers[r * MOST_COLUMNS + columns[r]]++;
            }
        }

        /** By what was listed last. */
        int rowToLookAt() {
            int row = NONE;
            int least = found.size + 1;
            for (int r = 1; r <= slope.canton.lastRow() && found.size > 0; r++) {
                int most = 0;
                for (int c = 0; c < MOST_COLUMNS; c++) {
                    most = Math.max(most, tellers[r * MOST_COLUMNS + c]);
                }
                if (most < least) {
                    least = most;
                    row = r;
                }
            }
            return row;
        }
    }
}
