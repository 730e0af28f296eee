import java.util.ArrayList;
import java.util.Arrays;
import java.util.List;
import java.util.NoSuchElementException;

/**
 * The document once more, written for plainness alone: states are cloned, laws are trees, the log is a
 * list. ModelTest holds SledgeVote against it.
 */
final class Model {
    static final int NONE = -1;
    static final int HIDDEN = -1000000;

    /** A text can't go on at a byte. */
    private static final class Wrong extends RuntimeException {
        private static final long serialVersionUID = 1L;
        final int at;

        Wrong(int at) {
            this.at = at;
        }
    }

    /** A sign or a number of a text. */
    private record Token(int at, char sign, String digits) {
        boolean isNumber() {
            return digits != null;
        }
    }

    private record Bump(int row, int column, int kick, int side) { }

    private record Told(int weight, int lean, int heels, int sight) { }

    private record Row(int column, int sum, int fell) { }

    private record Seen(int row, int column, boolean is) { }

    private static final class Canton {
        int width = 5;
        int top = 2;
        int grip = 6;
        int rows = 10;
        int straw = 3;
        final List<Bump> bumps = new ArrayList<>();
        final List<Integer> ice = new ArrayList<>();
        final List<Told> members = new ArrayList<>();
    }

    private static final class State {
        int[] weight;
        int[] lean;
        int[] heels;
        int[] seat;
        boolean[] on;
        boolean[] strewn;
        int straw;
        int row;
        int column;
        int sessions;
        List<Row> log = new ArrayList<>();

        State copy() {
            State s = new State();
            s.weight = weight.clone();
            s.lean = lean.clone();
            s.heels = heels.clone();
            s.seat = seat.clone();
            s.on = on.clone();
            s.strewn = strewn.clone();
            s.straw = straw;
            s.row = row;
            s.column = column;
            s.sessions = sessions;
            s.log = new ArrayList<>(log);
            return s;
        }

        int off() {
            int bits = 0;
            for (int m = 0; m < on.length; m++) {
                bits |= on[m] ? 0 : 1 << m;
            }
            return bits;
        }
    }

    private interface Tree {
        int value(int[] letters);
    }

    private record Clause(Tree condition, Tree sum) { }

    private String tape = "";
    private final List<List<Clause>> laws = new ArrayList<>();
    private int held = NONE;
    private Canton canton;
    private State now;
    private final List<State> acts = new ArrayList<>();
    private State image;
    private final List<Seen> seen = new ArrayList<>();
    private final int[] status = new int[5];
    private int dogs;

    // ---- texts

    int feed(int... numbers) {
        StringBuilder more = new StringBuilder();
        for (int number : numbers) {
            for (byte b : java.nio.ByteBuffer.allocate(4).putInt(number).array()) {
                if (b != 0) {
                    more.append((char) (b & 255));
                }
            }
        }
        if (tape.length() + more.length() > 240) {
            return NONE;
        }
        tape += more;
        return tape.length();
    }

    boolean end(int n) {
        if (n < 0 || n > tape.length()) {
            return false;
        }
        tape = tape.substring(0, n);
        return true;
    }

    private static List<Token> tokens(String text, int digits) {
        List<Token> list = new ArrayList<>();
        for (int i = 0; i < text.length(); i++) {
            char c = text.charAt(i);
            if (c >= '0' && c <= '9') {
                int to = i;
                while (to < text.length() && text.charAt(to) >= '0' && text.charAt(to) <= '9') {
                    to++;
                }
                list.add(new Token(i, '0', text.substring(i, to)));
                i = to - 1;
            } else if (c != ' ') {
                list.add(new Token(i, c, null));
            }
        }
        return list;
    }

    int fault(int sort) {
        if (sort != 0 && sort != 1) {
            return -2;
        }
        try {
            if (sort == 0) {
                canton(tape);
            } else {
                law(tape);
            }
            return NONE;
        } catch (Wrong wrong) {
            return wrong.at;
        }
    }

    int text(int sort) {
        if ((sort != 0 && sort != 1) || fault(sort) != NONE) {
            return NONE;
        }
        if (sort == 0) {
            canton = canton(tape);
            now = atTop();
            acts.clear();
            image = null;
            seen.clear();
            tape = "";
            return canton.members.size();
        }
        if (laws.size() == 4) {
            return NONE;
        }
        laws.add(law(tape));
        tape = "";
        return laws.size() - 1;
    }

    private static int bounded(String clause, char letter) {
        String bounds = switch (clause + letter) {
            case "sw" -> "3 9 5";
            case "so" -> "0 8 2";
            case "sg" -> "1 60 6";
            case "sr" -> "1 20 10";
            case "sy" -> "0 9 3";
            case "br" -> "1 20 1";
            case "bc" -> "0 8 0";
            case "bk" -> "1 9 3";
            case "bd" -> "0 1 0";
            case "ir" -> "0 19 0";
            case "mw" -> "1 9 3";
            case "ml" -> "0 2 1";
            case "mh" -> "0 9 3";
            case "ms" -> "0 9 2";
            default -> "";
        };
        if (bounds.isEmpty()) {
            return NONE;
        }
        String[] three = bounds.split(" ");
        return Integer.parseInt(three[0]) * 10000 + Integer.parseInt(three[1]) * 100 + Integer.parseInt(three[2]);
    }

    private static int item(String clause, char letter, java.util.Map<Character, Integer> items) {
        return items.containsKey(letter) ? items.get(letter) : bounded(clause, letter) % 100;
    }

    private static Canton canton(String text) {
        Canton c = new Canton();
        List<Token> all = tokens(text, 2);
        int s = 0;
        int i = 0;
        while (true) {
            if (i == all.size()) {
                throw new Wrong(text.length());
            }
            Token head = all.get(i++);
            String kind = "" + head.sign;
            int there = switch (head.sign) {
                case 's' -> s++ < 1 ? 1 : 0;
                case 'b' -> c.bumps.size() < 6 ? 1 : 0;
                case 'i' -> c.ice.size() < 4 ? 1 : 0;
                case 'm' -> c.members.size() < 6 ? 1 : 0;
                default -> 0;
            };
            if (there == 0) {
                throw new Wrong(head.at);
            }
            java.util.Map<Character, Integer> items = new java.util.HashMap<>();
            while (i < all.size() && all.get(i).sign != ';') {
                Token letter = all.get(i++);
                int bounds = letter.isNumber() ? NONE : bounded(kind, letter.sign);
                if (bounds == NONE || items.containsKey(letter.sign)) {
                    throw new Wrong(letter.at);
                }
                if (i == all.size()) {
                    throw new Wrong(text.length());
                }
                Token number = all.get(i++);
                if (!number.isNumber()) {
                    throw new Wrong(number.at);
                }
                if (number.digits.length() > 2) {
                    throw new Wrong(number.at + 2);
                }
                int value = Integer.parseInt(number.digits);
                if (value < bounds / 10000 || value > bounds / 100 % 100) {
                    throw new Wrong(number.at + number.digits.length() - 1);
                }
                items.put(letter.sign, value);
            }
            switch (head.sign) {
                case 's' -> {
                    c.width = item(kind, 'w', items);
                    c.top = item(kind, 'o', items);
                    c.grip = item(kind, 'g', items);
                    c.rows = item(kind, 'r', items);
                    c.straw = item(kind, 'y', items);
                }
                case 'b' -> c.bumps.add(new Bump(item(kind, 'r', items), item(kind, 'c', items),
                    item(kind, 'k', items), item(kind, 'd', items)));
                case 'i' -> c.ice.add(item(kind, 'r', items));
                default -> c.members.add(new Told(item(kind, 'w', items), item(kind, 'l', items),
                    item(kind, 'h', items), item(kind, 's', items)));
            }
            if (i == all.size()) {
                break;
            }
            i++;
        }
        boolean sound = !c.members.isEmpty() && c.top < c.width
            && c.ice.stream().distinct().count() == c.ice.size()
            && c.bumps.stream().map(b -> b.row * 100 + b.column).distinct().count() == c.bumps.size()
            && c.bumps.stream().allMatch(b -> b.column < c.width);
        if (!sound) {
            throw new Wrong(text.length());
        }
        return c;
    }

    // ---- laws

    private static final class LawText {
        final List<Token> all;
        final int length;
        int i;

        LawText(String text) {
            all = tokens(text, 4);
            length = text.length();
        }

        char next() {
            return i < all.size() ? all.get(i).sign : 0;
        }

        Wrong wrong() {
            return new Wrong(i < all.size() ? all.get(i).at : length);
        }

        void must(char sign) {
            if (next() != sign) {
                throw wrong();
            }
            i++;
        }

        boolean may(char sign) {
            if (next() != sign) {
                return false;
            }
            i++;
            return true;
        }

        void deeper(int depth) {
            if (depth == 6) {
                throw wrong();
            }
        }

        Clause clause() {
            must('y');
            must(':');
            if (next() != '!' && next() != '(') {
                Tree sum = sum(0);
                if (next() != '=' && next() != '<' && next() != '>') {
                    return new Clause(null, sum);
                }
                Tree condition = or(and(compare(sum, 0), 0), 0);
                must('?');
                return new Clause(condition, sum(0));
            }
            Tree condition = or(and(unit(0), 0), 0);
            must('?');
            return new Clause(condition, sum(0));
        }

        Tree or(Tree first, int depth) {
            Tree left = first;
            while (may('|')) {
                Tree a = left;
                Tree b = and(unit(depth), depth);
                left = l -> a.value(l) == 1 || b.value(l) == 1 ? 1 : 0;
            }
            return left;
        }

        Tree and(Tree first, int depth) {
            Tree left = first;
            while (may('&')) {
                Tree a = left;
                Tree b = unit(depth);
                left = l -> a.value(l) == 1 && b.value(l) == 1 ? 1 : 0;
            }
            return left;
        }

        Tree unit(int depth) {
            if (next() == '!') {
                deeper(depth);
                i++;
                Tree inner = unit(depth + 1);
                return l -> inner.value(l) == 1 ? 0 : 1;
            }
            if (next() == '(') {
                deeper(depth);
                i++;
                Tree inner = or(and(unit(depth + 1), depth + 1), depth + 1);
                must(')');
                return inner;
            }
            return compare(sum(depth), depth);
        }

        Tree compare(Tree a, int depth) {
            char sign = next();
            if (sign != '=' && sign != '<' && sign != '>') {
                throw wrong();
            }
            i++;
            Tree b = sum(depth);
            return switch (sign) {
                case '=' -> l -> a.value(l) == b.value(l) ? 1 : 0;
                case '<' -> l -> a.value(l) < b.value(l) ? 1 : 0;
                default -> l -> a.value(l) > b.value(l) ? 1 : 0;
            };
        }

        static int within(long number) {
            return (int) Math.max(-1000000, Math.min(1000000, number));
        }

        Tree sum(int depth) {
            Tree left = term(depth);
            while (next() == '+' || next() == '-') {
                char sign = all.get(i++).sign;
                Tree a = left;
                Tree b = term(depth);
                left = sign == '+' ? l -> within((long) a.value(l) + b.value(l))
                    : l -> within((long) a.value(l) - b.value(l));
            }
            return left;
        }

        Tree term(int depth) {
            Tree left = atom(depth);
            while (next() == '*' || next() == '/') {
                char sign = all.get(i++).sign;
                Tree a = left;
                Tree b = atom(depth);
                left = sign == '*' ? l -> within((long) a.value(l) * b.value(l))
                    : l -> b.value(l) == 0 ? 0 : within(a.value(l) / b.value(l));
            }
            return left;
        }

        Tree atom(int depth) {
            if (next() == '[') {
                deeper(depth);
                i++;
                Tree inner = sum(depth + 1);
                must(']');
                return inner;
            }
            if (next() == '0') {
                Token number = all.get(i++);
                if (number.digits.length() > 4) {
                    throw new Wrong(number.at + 4);
                }
                int value = Integer.parseInt(number.digits);
                return l -> value;
            }
            int letter = i < all.size() ? "whpnrc".indexOf(next()) : -1;
            if (letter < 0) {
                throw wrong();
            }
            i++;
            return l -> l[letter];
        }
    }

    private static List<Clause> law(String text) {
        LawText reader = new LawText(text);
        List<Clause> clauses = new ArrayList<>();
        do {
            clauses.add(reader.clause());
        } while (reader.may(';'));
        if (reader.i < reader.all.size()) {
            throw reader.wrong();
        }
        return clauses;
    }

    boolean law(int law) {
        if (law != NONE && (law < 0 || law >= laws.size())) {
            return false;
        }
        held = law;
        return true;
    }

    // ---- the sledge

    private State atTop() {
        State s = new State();
        int n = canton.members.size();
        s.weight = canton.members.stream().mapToInt(Told::weight).toArray();
        s.lean = canton.members.stream().mapToInt(Told::lean).toArray();
        s.heels = canton.members.stream().mapToInt(Told::heels).toArray();
        s.seat = new int[n];
        s.on = new boolean[n];
        for (int m = 0; m < n; m++) {
            s.seat[m] = m;
            s.on[m] = true;
        }
        s.strewn = new boolean[canton.bumps.size()];
        s.straw = canton.straw;
        s.column = canton.top;
        return s;
    }

    private int push(State s, int m) {
        if (held == NONE) {
            return s.weight[m];
        }
        int on = s.on.length - Integer.bitCount(s.off());
        int[] letters = {s.weight[m], s.heels[m], s.seat[m], on, s.row, s.column};
        for (Clause clause : laws.get(held)) {
            if (clause.condition == null || clause.condition.value(letters) == 1) {
                return Math.max(0, Math.min(99, clause.sum.value(letters)));
            }
        }
        return 0;
    }

    private int sum(State s) {
        int right = 0;
        int left = 0;
        for (int m = 0; m < s.on.length; m++) {
            if (s.on[m] && s.lean[m] == 2) {
                right += push(s, m);
            }
            if (s.on[m] && s.lean[m] == 0) {
                left += push(s, m);
            }
        }
        return (right - left) * (canton.ice.contains(s.row) ? 2 : 1);
    }

    private int bumpAt(int row, int column) {
        for (int b = 0; b < canton.bumps.size(); b++) {
            if (canton.bumps.get(b).row == row && canton.bumps.get(b).column == column) {
                return b;
            }
        }
        return NONE;
    }

    /** A row further; the bump at which it came to it. */
    private int further(State s) {
        int sum = sum(s);
        if (sum >= canton.grip) {
            s.column = Math.min(canton.width - 1, s.column + 1);
        }
        if (sum <= -canton.grip) {
            s.column = Math.max(0, s.column - 1);
        }
        s.row++;
        int at = bumpAt(s.row, s.column);
        int fell = 0;
        if (at != NONE && !s.strewn[at]) {
            Bump bump = canton.bumps.get(at);
            for (int m = 0; m < s.on.length; m++) {
                if (s.on[m] && s.heels[m] < bump.kick) {
                    s.on[m] = false;
                    fell |= 1 << m;
                }
            }
            s.column = bump.side == 1 ? Math.min(canton.width - 1, s.column + 1) : Math.max(0, s.column - 1);
        }
        s.log.add(new Row(s.column, sum, fell));
        return at;
    }

    private State down(State from) {
        State s = from.copy();
        while (s.row < canton.rows) {
            further(s);
        }
        return s;
    }

    private int side(State s) {
        return s.column < canton.width / 2 ? 0 : s.column > (canton.width - 1) / 2 ? 2 : 1;
    }

    private int sideBy(int[] leans) {
        State s = now.copy();
        s.lean = leans;
        return side(down(s));
    }

    // ---- what is told

    private boolean isMember(int m) {
        return canton != null && m >= 0 && m < canton.members.size();
    }

    private boolean isBump(int b) {
        return canton != null && b >= 0 && b < canton.bumps.size();
    }

    int rule(int what) {
        if (canton == null || what < 0 || what > 4) {
            return NONE;
        }
        return new int[] {canton.width, canton.top, canton.grip, canton.rows, now.straw}[what];
    }

    int bump(int b, int what) {
        if (!isBump(b) || what < 0 || what > 4) {
            return NONE;
        }
        Bump bump = canton.bumps.get(b);
        return new int[] {bump.row, bump.column, bump.kick, bump.side, now.strewn[b] ? 1 : 0}[what];
    }

    int member(int m, int what) {
        if (!isMember(m) || what < 0 || what > 6) {
            throw new NoSuchElementException();
        }
        return new int[] {canton.members.get(m).weight, now.lean[m], now.heels[m], canton.members.get(m).sight,
            now.seat[m], now.on[m] ? 1 : 0, push(now, m)}[what];
    }

    int sum() {
        return canton == null ? HIDDEN : sum(now);
    }

    int count(int what) {
        return switch (what) {
            case 0 -> canton == null ? 0 : canton.members.size();
            case 1 -> canton == null ? 0 : canton.bumps.size();
            case 2 -> laws.size();
            case 3 -> tape.length();
            case 4 -> held;
            case 5 -> canton == null ? 0 : now.row;
            case 6 -> canton == null ? 0 : now.column;
            case 7 -> canton == null ? 0 : (1 << now.on.length) - 1 - now.off();
            case 8 -> canton == null ? 0 : now.sessions;
            case 9 -> dogs;
            case 10 -> seen.size();
            case 11 -> canton == null ? 0 : canton.ice.stream().mapToInt(r -> 1 << r).sum();
            case 12 -> canton == null ? 0 : Math.min(60, now.log.size());
            case 13 -> acts.size();
            default -> HIDDEN;
        };
    }

    int status(int what) {
        return what < 0 || what > 4 ? NONE : status[what];
    }

    int log(int i, int what) {
        if (i < 0 || i >= count(12) || what < 0 || what > 2) {
            return HIDDEN;
        }
        Row row = now.log.get(now.log.size() - 1 - i);
        return what == 0 ? row.column : what == 1 ? row.sum : row.fell;
    }

    // ---- acts

    private int refused(int why) {
        status[why]++;
        return NONE;
    }

    private void act() {
        acts.add(now.copy());
        if (acts.size() > 40) {
            acts.remove(0);
        }
    }

    int lean(int m, int to) {
        if (!isMember(m)) {
            return refused(0);
        }
        if (to < 0 || to > 2) {
            return refused(1);
        }
        if (now.lean[m] == to) {
            return refused(2);
        }
        act();
        int before = now.lean[m];
        now.lean[m] = to;
        return before;
    }

    int change(int one, int other) {
        if (!isMember(one) || !isMember(other)) {
            return refused(0);
        }
        if (one == other) {
            return refused(2);
        }
        act();
        exchange(one, other);
        return now.seat[one];
    }

    private void exchange(int one, int other) {
        int seat = now.seat[one];
        now.seat[one] = now.seat[other];
        now.seat[other] = seat;
    }

    int heel(int m) {
        if (!isMember(m)) {
            return refused(0);
        }
        if (now.heels[m] == 9) {
            return refused(2);
        }
        act();
        return ++now.heels[m];
    }

    int strew(int b) {
        if (!isBump(b)) {
            return refused(0);
        }
        if (now.strewn[b]) {
            return refused(2);
        }
        if (now.straw == 0) {
            return refused(3);
        }
        act();
        now.strewn[b] = true;
        return --now.straw;
    }

    int rows(int n) {
        if (canton == null) {
            return refused(0);
        }
        if (n < 1 || n > 20) {
            return refused(1);
        }
        if (now.row + n > canton.rows) {
            return refused(4);
        }
        for (int i = 0; i < n; i++) {
            act();
            further(now);
        }
        return now.column;
    }

    private void walkBack() {
        now.row = 0;
        now.column = canton.top;
        Arrays.fill(now.on, true);
        now.sessions++;
    }

    int walk() {
        if (canton == null) {
            return refused(0);
        }
        if (now.row != canton.rows) {
            return refused(4);
        }
        act();
        walkBack();
        return now.sessions;
    }

    boolean dogs(int v) {
        if (v < 0 || v > 9 || v == dogs) {
            return false;
        }
        dogs = v;
        return true;
    }

    int sessions(int n, long seed) {
        if (canton == null || n < 1 || n > 20) {
            return NONE;
        }
        java.math.BigInteger[] x = {java.math.BigInteger.valueOf(seed)};
        for (int i = 0; i < n; i++) {
            act();
            if (now.row == canton.rows) {
                walkBack();
            }
            for (int m = 0; m < now.on.length; m++) {
                now.lean[m] = draw(x, 3);
            }
            if (draw(x, 10) < dogs) {
                exchangeDrawn(x);
            }
            while (now.row < canton.rows) {
                further(now);
            }
        }
        return now.column;
    }

    private void exchangeDrawn(java.math.BigInteger[] x) {
        int one = draw(x, now.on.length);
        int other = draw(x, now.on.length);
        if (one != other) {
            exchange(one, other);
        }
    }

    private static int draw(java.math.BigInteger[] x, int j) {
        x[0] = x[0].multiply(new java.math.BigInteger("6364136223846793005"))
            .add(new java.math.BigInteger("1442695040888963407"))
            .mod(java.math.BigInteger.ONE.shiftLeft(64));
        return x[0].shiftRight(33).mod(java.math.BigInteger.valueOf(j)).intValue();
    }

    int undo() {
        if (acts.isEmpty()) {
            return NONE;
        }
        now = acts.remove(acts.size() - 1);
        return acts.size();
    }

    int image() {
        if (canton == null) {
            return NONE;
        }
        image = now.copy();
        return now.row;
    }

    int back() {
        if (image == null) {
            return NONE;
        }
        now = image.copy();
        acts.clear();
        return now.row;
    }

    // ---- ahead

    int ends(int what) {
        if (canton == null || what < 0 || what > 2) {
            return NONE;
        }
        State s = down(now);
        return what == 0 ? s.column : what == 1 ? side(s) : s.off();
    }

    int ahead(int n) {
        if (canton == null || n < 0 || n > 20) {
            return NONE;
        }
        State s = now.copy();
        for (int i = 0; i < n && s.row < canton.rows; i++) {
            further(s);
        }
        return s.column;
    }

    private static int number(int[] digits) {
        int number = 0;
        for (int digit : digits) {
            number = number * 10 + digit;
        }
        return number;
    }

    private static int unlike(int[] one, int[] other) {
        int n = 0;
        for (int i = 0; i < one.length; i++) {
            n += one[i] == other[i] ? 0 : 1;
        }
        return n;
    }

    private static List<int[]> rowsOf(int length, int digits, boolean eachOnce) {
        List<int[]> rows = new ArrayList<>();
        rows.add(new int[0]);
        for (int i = 0; i < length; i++) {
            List<int[]> longer = new ArrayList<>();
            for (int[] row : rows) {
                for (int digit = 0; digit < digits; digit++) {
                    int d = digit;
                    if (!eachOnce || Arrays.stream(row).noneMatch(have -> have == d)) {
                        int[] next = Arrays.copyOf(row, row.length + 1);
                        next[row.length] = digit;
                        longer.add(next);
                    }
                }
            }
            rows = longer;
        }
        return rows;
    }

    int turn(int side, int what) {
        if (canton == null || side < 0 || side > 2 || what < 0 || what > 1) {
            return NONE;
        }
        int[] best = null;
        for (int[] row : rowsOf(now.on.length, 3, false)) {
            if (sideBy(row) == side && (best == null || unlike(row, now.lean) < unlike(best, now.lean))) {
                best = row;
            }
        }
        return best == null ? NONE : what == 0 ? unlike(best, now.lean) : number(best);
    }

    int seating(int side, int what) {
        if (canton == null || side < 0 || side > 2 || what < 0 || what > 1) {
            return NONE;
        }
        int best = NONE;
        int fewest = 99;
        for (int[] row : rowsOf(now.on.length, now.on.length, true)) {
            State s = now.copy();
            for (int seat = 0; seat < row.length; seat++) {
                s.seat[row[seat]] = seat;
            }
            int moved = unlike(s.seat, now.seat);
            if (moved < fewest && side(down(s)) == side) {
                fewest = moved;
                best = number(row);
            }
        }
        return best == NONE ? NONE : what == 0 ? fewest : best;
    }

    int power(int member) {
        if (!isMember(member)) {
            return NONE;
        }
        int n = 0;
        for (int[] row : rowsOf(now.on.length - 1, 2, false)) {
            int[] left = new int[now.on.length];
            for (int m = 0, i = 0; m < left.length; m++) {
                left[m] = m == member ? 0 : 2 * row[i++];
            }
            int[] right = left.clone();
            right[member] = 2;
            n += sideBy(left) == sideBy(right) ? 0 : 1;
        }
        return n;
    }

    int game(int one, int other, int x, int y, int what) {
        if (!isMember(one) || !isMember(other) || one == other) {
            return HIDDEN;
        }
        if (x < 0 || x > 2 || y < 0 || y > 2 || what < 0 || what > 1) {
            return HIDDEN;
        }
        State s = now.copy();
        s.lean[one] = x;
        s.lean[other] = y;
        s = down(s);
        int who = what == 0 ? one : other;
        int own = what == 0 ? x : y;
        return (side(s) == now.lean[who] ? 6 : 0) - (own == 1 ? 0 : 1) - (s.on[who] ? 0 : 2);
    }

    private static int pick(List<Integer> list, int i) {
        return i == NONE ? list.size() : i < 0 || i >= list.size() ? NONE : list.get(i);
    }

    int rests(int one, int other, int i) {
        if (!isMember(one) || !isMember(other) || one == other) {
            return NONE;
        }
        List<Integer> list = new ArrayList<>();
        for (int x = 0; x < 3; x++) {
            for (int y = 0; y < 3; y++) {
                int first = game(one, other, x, y, 0);
                int second = game(one, other, x, y, 1);
                boolean rest = true;
                for (int z = 0; z < 3; z++) {
                    rest &= game(one, other, z, y, 0) <= first && game(one, other, x, z, 1) <= second;
                }
                if (rest) {
                    list.add(10 * x + y);
                }
            }
        }
        return pick(list, i);
    }

    /** Row by row: who knows of it, seat by seat. */
    int knows(int member, int b) {
        if (!isMember(member) || !isBump(b) || !now.on[member] || now.strewn[b]) {
            return NONE;
        }
        int n = now.on.length;
        boolean[] known = new boolean[n];
        for (int row = now.row; row < canton.bumps.get(b).row; row++) {
            boolean[] next = known.clone();
            for (int seat = 1; seat < n; seat++) {
                next[seat] |= known[seat - 1];
            }
            for (int m = 0; m < n; m++) {
                if (now.on[m] && canton.bumps.get(b).row - row <= canton.members.get(m).sight) {
                    next[now.seat[m]] = true;
                }
            }
            known = next;
            if (known[now.seat[member]]) {
                return row;
            }
        }
        return NONE;
    }

    private List<Integer> strawSets(int k) {
        List<Integer> list = new ArrayList<>();
        for (int set = 0; set < 1 << canton.bumps.size(); set++) {
            State s = now.copy();
            boolean free = true;
            for (int b = 0; b < canton.bumps.size(); b++) {
                if ((set >> b & 1) == 1) {
                    free &= !s.strewn[b];
                    s.strewn[b] = true;
                }
            }
            if (free && Integer.bitCount(set) == k && down(s).off() == now.off()) {
                list.add(set);
            }
        }
        return list;
    }

    int straw(int k, int i) {
        return canton == null || k < 0 || k > 3 ? NONE : pick(strawSets(k), i);
    }

    int fewest() {
        for (int k = 0; canton != null && k <= canton.bumps.size(); k++) {
            if (!strawSets(k).isEmpty()) {
                return strawSets(k).get(0);
            }
        }
        return NONE;
    }

    int seen(int row, int column, boolean is) {
        if (canton == null || row < 1 || row > 20 || column < 0 || column >= canton.width || seen.size() == 10) {
            return NONE;
        }
        seen.add(new Seen(row, column, is));
        return seen.size();
    }

    private int columnBy(int m, int g, int row) {
        State s = atTop();
        if (m < 9) {
            s.weight[m] = Math.min(9, s.weight[m] + g);
        }
        while (s.row < row && s.row < canton.rows) {
            further(s);
        }
        return s.column;
    }

    private List<Integer> fitting(int g) {
        List<Integer> list = new ArrayList<>();
        for (int m = 0; m < 10; m++) {
            if (m == 9 || m < canton.members.size()) {
                int who = m;
                if (seen.stream().allMatch(s -> (columnBy(who, g, s.row) == s.column) == s.is)) {
                    list.add(m);
                }
            }
        }
        return list;
    }

    int who(int g, int i) {
        return canton == null || g < 1 || g > 5 ? NONE : pick(fitting(g), i);
    }

    int best(int g) {
        if (canton == null || g < 1 || g > 5 || fitting(g).isEmpty()) {
            return NONE;
        }
        int best = NONE;
        int least = 99;
        for (int row = 1; row <= canton.rows; row++) {
            int[] tell = new int[9];
            for (int m : fitting(g)) {
                tell[columnBy(m, g, row)]++;
            }
            int most = Arrays.stream(tell).max().getAsInt();
            if (most < least) {
                least = most;
                best = row;
            }
        }
        return best;
    }

    private long parts(int m, long part, int[] leans, int side, int chance) {
        if (m == leans.length) {
            return sideBy(leans.clone()) == side ? part : 0;
        }
        if (!now.on[m] || leans[m] == 1) {
            return parts(m + 1, part, leans, side, chance);
        }
        long wrong = part * chance / 100;
        int[] wrongly = leans.clone();
        wrongly[m] = leans[m] == 0 ? 2 : 0;
        return parts(m + 1, wrong, wrongly, side, chance) + parts(m + 1, part - wrong, leans, side, chance);
    }

    int odds(int side, int chance) {
        if (canton == null || side < 0 || side > 2 || chance < 0 || chance > 100) {
            return NONE;
        }
        return (int) parts(0, 1000000000L, now.lean.clone(), side, chance);
    }

    int shares(int member, int c) {
        if (!isMember(member) || c < 0 || c > 999) {
            return NONE;
        }
        int all = 0;
        for (int m = 0; m < now.on.length; m++) {
            all += now.on[m] ? now.weight[m] : 0;
        }
        return now.on[member] ? c * now.weight[member] / all : 0;
    }

    int most(int what) {
        if (canton == null || what < 0 || what > 2) {
            return NONE;
        }
        int heaviest = NONE;
        int moderates = 0;
        int right = 0;
        for (int m = now.on.length - 1; m >= 0; m--) {
            moderates |= now.lean[m] == 1 ? 1 << m : 0;
            if (now.on[m]) {
                heaviest = heaviest == NONE || now.weight[m] >= now.weight[heaviest] ? m : heaviest;
                right += (now.lean[m] - 1) * now.weight[m];
            }
        }
        return what == 0 ? heaviest : what == 1 ? moderates : right > 0 ? 2 : right < 0 ? 0 : 1;
    }

    int stays(int member) {
        if (!isMember(member) || !now.on[member]) {
            return NONE;
        }
        for (int h = 0; h < 10; h++) {
            State s = now.copy();
            s.heels[member] = h;
            if (down(s).on[member]) {
                return h;
            }
        }
        return NONE;
    }

    int met() {
        if (canton == null) {
            return NONE;
        }
        int bits = 0;
        State s = now.copy();
        while (s.row < canton.rows) {
            int at = further(s);
            bits |= at == NONE ? 0 : 1 << at;
        }
        return bits;
    }
}
