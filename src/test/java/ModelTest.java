import java.util.NoSuchElementException;
import java.util.Random;

/** Runs of calls, drawn by fixed seeds, on SledgeVote and on the model: they answer alike. */
public final class ModelTest {
    private static final int CALLS = 500;
    private final Random random;
    private final SledgeVote x = new SledgeVote();
    private final Model model = new Model();
    private final Checks checks;
    private final StringBuilder trail = new StringBuilder();

    private ModelTest(long seed, Checks checks) {
        this.random = new Random(seed);
        this.checks = checks;
    }

    public static void main(String[] args) {
        int runs = args.length > 0 ? Integer.parseInt(args[0]) : 400;
        long first = args.length > 1 ? Long.parseLong(args[1]) : 1;
        Checks checks = new Checks("ModelTest");
        for (long seed = first; seed < first + runs; seed++) {
            new ModelTest(seed, checks).run(seed);
        }
        checks.finish();
    }

    private int upTo(int n) {
        return random.nextInt(n);
    }

    /** Mostly 0 .. n - 1, at times just beside it or far off. */
    private int near(int n) {
        int sort = upTo(40);
        if (sort == 0) {
            return -1;
        }
        if (sort == 1) {
            return n;
        }
        if (sort == 2) {
            return random.nextBoolean() ? Integer.MIN_VALUE : Integer.MAX_VALUE;
        }
        return upTo(n);
    }

    private static final String[] ITEMS = {"s w3.9 o0.8 g1.60 r1.20 y0.9", "b r1.20 c0.8 k1.9 d0.1", "i r0.19",
        "m w1.9 l0.2 h0.9 s0.9"};

    private String clause(int kind, int small) {
        String[] parts = ITEMS[kind].split(" ");
        StringBuilder text = new StringBuilder(parts[0]);
        for (int i = 1; i < parts.length; i++) {
            if (upTo(4) > 0) {
                String[] bounds = parts[i].substring(1).split("\\.");
                int low = Integer.parseInt(bounds[0]);
                int high = Math.min(Integer.parseInt(bounds[1]), Math.max(low, small));
                text.append(blank()).append(parts[i].charAt(0)).append(blank()).append(low + upTo(high - low + 1));
            }
        }
        return text.append(blank()).toString();
    }

    private String blank() {
        return upTo(40) == 0 ? " " : "";
    }

    /** A run with a bump in most rows below the top and a full sledge: many fall, and much straw is needed. */
    private String bumpyText() {
        StringBuilder text = new StringBuilder("sr12y9g").append(6 + upTo(40)).append(";");
        for (int row = 1; row <= 6; row++) {
            text.append("br").append(row).append("c").append(upTo(4) > 0 ? 2 : 1 + upTo(3));
            text.append("k").append(1 + upTo(9)).append("d").append(upTo(2)).append(";");
        }
        for (int m = 0; m < 6; m++) {
            text.append("mw").append(1 + upTo(9)).append("l").append(upTo(3)).append("h").append(upTo(9));
            text.append(m < 5 ? ";" : "");
        }
        return text.toString();
    }

    private String cantonText() {
        if (upTo(5) == 0) {
            return bumpyText();
        }
        int small = 3 + upTo(20);
        StringBuilder text = new StringBuilder();
        if (upTo(5) > 0) {
            text.append("sw").append(3 + upTo(7)).append("g").append(1 + upTo(12)).append("r").append(1 + upTo(20));
            text.append("y").append(upTo(5)).append(";");
        }
        for (int i = upTo(7); i > 0; i--) {
            text.append(clause(1, small)).append(";");
        }
        for (int i = upTo(4); i > 0; i--) {
            text.append(clause(2, 19)).append(";");
        }
        for (int i = upTo(6); i > 0; i--) {
            text.append(clause(3, small)).append(";");
        }
        return text.append(clause(3, small)).toString();
    }

    private String sum(int depth) {
        StringBuilder text = new StringBuilder(term(depth));
        for (int i = upTo(3); i > 1; i--) {
            text.append("+-".charAt(upTo(2))).append(term(depth));
        }
        return text.toString();
    }

    private String term(int depth) {
        StringBuilder text = new StringBuilder(atom(depth));
        for (int i = upTo(3); i > 1; i--) {
            text.append("*/".charAt(upTo(2))).append(atom(depth));
        }
        return text.toString();
    }

    private String atom(int depth) {
        int sort = upTo(10);
        if (sort == 0 && depth < 7) {
            return "[" + sum(depth + 1) + "]";
        }
        return sort < 4 ? "" + upTo(upTo(8) == 0 ? 10000 : 12) : "" + "whpnrc".charAt(upTo(6)) + blank();
    }

    private String unit(int depth) {
        int sort = upTo(8);
        if (sort == 0 && depth < 7) {
            return "!" + unit(depth + 1);
        }
        if (sort == 1 && depth < 7) {
            return "(" + condition(depth + 1) + ")";
        }
        return sum(depth) + "=<>".charAt(upTo(3)) + sum(depth);
    }

    private String condition(int depth) {
        StringBuilder text = new StringBuilder(unit(depth));
        for (int i = upTo(3); i > 0; i--) {
            text.append("&|".charAt(upTo(2))).append(unit(depth));
        }
        return text.toString();
    }

    private String lawText() {
        StringBuilder text = new StringBuilder();
        for (int i = upTo(3); i >= 0; i--) {
            text.append("y:").append(upTo(3) > 0 ? condition(0) + "?" : "").append(sum(0)).append(i > 0 ? ";" : "");
        }
        return text.toString();
    }

    private String spoilt(String text) {
        StringBuilder spoilt = new StringBuilder(text);
        for (int n = 1 + upTo(2); n > 0 && spoilt.length() > 0; n--) {
            int at = upTo(spoilt.length());
            char sign = ";:?!()[]=<>+-*/|& sbimwogrycklhdpny0123456789".charAt(upTo(45));
            int sort = upTo(4);
            if (sort == 0) {
                spoilt.setCharAt(at, sign);
            } else if (sort == 1) {
                spoilt.insert(at, sign);
            } else if (sort == 2) {
                spoilt.deleteCharAt(at);
            } else {
                spoilt.setLength(at);
            }
        }
        return spoilt.toString();
    }

    private void put(String text) {
        trail.append("[").append(text).append("] ");
        for (int[] n : Checks.numbers(text)) {
            due("feed", x.feed(n[0], n[1], n[2], n[3], n[4]), model.feed(n));
        }
    }

    private void due(String call, long got, long want) {
        if (got != want) {
            System.out.println("behind " + trail);
        }
        checks.due(call, got, want);
    }

    private void member(int m, int what) {
        long got;
        long want;
        try {
            got = x.member(m, what);
        } catch (NoSuchElementException none) {
            got = Long.MIN_VALUE;
        }
        try {
            want = model.member(m, what);
        } catch (NoSuchElementException none) {
            want = Long.MIN_VALUE;
        }
        due("member(" + m + ", " + what + ")", got, want);
    }

    private void run(long seed) {
        trail.append("seed ").append(seed).append(": ");
        int calls = 0;
        while (calls < CALLS) {
            int sort = calls < 3 ? 6 : upTo(160);
            if (sort < 6) {
                calls += texts(sort);
            } else if (sort < 8 && (calls < 3 || upTo(4) == 0)) {
                x.end(0);
                model.end(0);
                put(cantonText());
                due("fault(0)", x.fault(0), model.fault(0));
                due("text(0)", x.text(0), model.text(0));
                calls += 16;
            } else if (sort < 60) {
                act(sort % 14);
                calls++;
            } else if (sort < 64) {
                everything();
                calls += 60;
            } else {
                ask(sort % 25);
                calls++;
            }
        }
        everything();
    }

    private int texts(int sort) {
        if (sort < 4) {
            due("end(0)", x.end(0) ? 1 : 0, model.end(0) ? 1 : 0);
            String text = sort < 2 ? cantonText() : lawText();
            put(upTo(3) == 0 ? text : spoilt(text));
            due("fault(0)", x.fault(0), model.fault(0));
            due("fault(1)", x.fault(1), model.fault(1));
        }
        if (sort >= 2) {
            due("text(1)", x.text(1), model.text(1));
            int law = near(4);
            trail.append("law(").append(law).append(") ");
            due("law", x.law(law) ? 1 : 0, model.law(law) ? 1 : 0);
        }
        int n = near(200);
        due("end(n)", x.end(n) ? 1 : 0, model.end(n) ? 1 : 0);
        return 20;
    }

    private void act(int sort) {
        int a = near(6);
        int b = near(6);
        int n = near(upTo(3) == 0 ? 21 : 4);
        long seed = random.nextLong();
        trail.append(sort).append("(").append(a).append(",").append(b).append(",").append(n).append(",")
            .append(seed).append(") ");
        switch (sort) {
            case 0, 1 -> due("lean", x.lean(a, n), model.lean(a, n));
            case 2 -> due("change", x.change(a, b), model.change(a, b));
            case 3 -> due("heel", x.heel(a), model.heel(a));
            case 4 -> due("strew", x.strew(a), model.strew(a));
            case 5, 6, 7 -> due("rows", x.rows(n), model.rows(n));
            case 8, 9 -> due("walk", x.walk(), model.walk());
            case 10 -> due("dogs", x.dogs(n) ? 1 : 0, model.dogs(n) ? 1 : 0);
            case 11 -> due("sessions", x.sessions(n, seed), model.sessions(n, seed));
            case 12 -> undoSome(n);
            default -> imageOrBack(a, b, n);
        }
    }

    private void undoSome(int n) {
        for (int i = 0; i < 1 + Math.max(0, Math.min(n, 50)); i++) {
            due("undo", x.undo(), model.undo());
        }
    }

    private void imageOrBack(int a, int b, int n) {
        if (n % 3 == 0) {
            due("image", x.image(), model.image());
        } else if (n % 3 == 1) {
            due("back", x.back(), model.back());
        } else {
            due("seen", x.seen(1 + a, b, n > 1), model.seen(1 + a, b, n > 1));
        }
    }

    private void ask(int sort) {
        int a = near(6);
        int b = near(6);
        int n = near(3);
        int i = near(3);
        int two = near(2);
        int many = near(21);
        int chance = near(101);
        trail.append(sort).append("?").append(a).append(",").append(b).append(",").append(n).append(",").append(i)
            .append(",").append(two).append(",").append(many).append(" ");
        switch (sort) {
            case 0 -> due("ends", x.ends(n), model.ends(n));
            case 1 -> due("ahead", x.ahead(many), model.ahead(many));
            case 2 -> due("turn", x.turn(n, two), model.turn(n, two));
            case 3 -> due("seating", x.seating(n, two), model.seating(n, two));
            case 4 -> due("power", x.power(a), model.power(a));
            case 5 -> due("game", x.game(a, b, n, i, two), model.game(a, b, n, i, two));
            case 6 -> due("rests", x.rests(a, b, i), model.rests(a, b, i));
            case 7 -> due("knows", x.knows(a, b), model.knows(a, b));
            case 8 -> due("straw", x.straw(n, i), model.straw(n, i));
            case 9 -> due("fewest", x.fewest(), model.fewest());
            case 10 -> due("seen", x.seen(many, a, n > 0), model.seen(many, a, n > 0));
            case 11 -> due("who", x.who(a, i), model.who(a, i));
            case 12 -> due("best", x.best(a), model.best(a));
            case 13 -> due("odds", x.odds(n, chance), model.odds(n, chance));
            case 14 -> due("shares", x.shares(a, chance * 10), model.shares(a, chance * 10));
            case 15 -> due("most", x.most(n), model.most(n));
            case 16 -> due("stays", x.stays(a), model.stays(a));
            case 17 -> due("met", x.met(), model.met());
            case 18 -> due("log", x.log(chance, n), model.log(chance, n));
            case 19 -> member(a, near(7));
            case 20 -> due("rule", x.rule(b), model.rule(b));
            case 21 -> due("bump", x.bump(a, near5(chance)), model.bump(a, near5(chance)));
            case 22 -> due("status", x.status(b), model.status(b));
            case 23 -> due("sum", x.sum(), model.sum());
            default -> due("count", x.count(many - 3), model.count(many - 3));
        }
    }

    private static int near5(int n) {
        return n < 0 || n > 100 ? n : n % 5;
    }

    /** The whole state, as far as it is told, and what is ahead. */
    private void everything() {
        trail.append("everything ");
        for (int what = 0; what < 14; what++) {
            due("count(" + what + ")", x.count(what), model.count(what));
        }
        for (int m = 0; m < 6; m++) {
            for (int what = 0; what < 7; what++) {
                member(m, what);
            }
            for (int b = 0; b < 6; b++) {
                due("knows(" + m + ", " + b + ")", x.knows(m, b), model.knows(m, b));
            }
            due("stays(" + m + ")", x.stays(m), model.stays(m));
            due("power(" + m + ")", x.power(m), model.power(m));
        }
        for (int what = 0; what < 5; what++) {
            due("rule(" + what + ")", x.rule(what), model.rule(what));
            due("status(" + what + ")", x.status(what), model.status(what));
            for (int b = 0; b < 6; b++) {
                due("bump(" + b + ", " + what + ")", x.bump(b, what), model.bump(b, what));
            }
        }
        for (int i = 0; i < 62; i++) {
            for (int what = 0; what < 3; what++) {
                due("log(" + i + ", " + what + ")", x.log(i, what), model.log(i, what));
            }
        }
        for (int side = 0; side < 3; side++) {
            due("ends(" + side + ")", x.ends(side), model.ends(side));
            due("turn(" + side + ", 1)", x.turn(side, 1), model.turn(side, 1));
            due("seating(" + side + ", 1)", x.seating(side, 1), model.seating(side, 1));
            due("most(" + side + ")", x.most(side), model.most(side));
            due("odds(" + side + ", 33)", x.odds(side, 33), model.odds(side, 33));
        }
        due("sum", x.sum(), model.sum());
        due("met", x.met(), model.met());
        due("fewest", x.fewest(), model.fewest());
    }
}
