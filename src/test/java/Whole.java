import java.util.NoSuchElementException;

/** All that an object tells of itself but STATUS, as one text: two objects that are alike have the same one. */
final class Whole {
    private Whole() { }

    static String of(SledgeVote x) {
        StringBuilder all = new StringBuilder();
        rows(x, all);
        for (int m = 0; m < 6; m++) {
            for (int what = 0; what < 7; what++) {
                tell(all, "member " + m + " " + what, member(x, m, what));
            }
        }
        for (int what = 0; what < 5; what++) {
            tell(all, "rule " + what, x.rule(what));
            for (int b = 0; b < 6; b++) {
                tell(all, "bump " + b + " " + what, x.bump(b, what));
            }
        }
        for (int g = 1; g <= 5; g++) {
            for (int i = -1; i < 7; i++) {
                tell(all, "who " + g + " " + i, x.who(g, i));
            }
        }
        for (int side = 0; side < 3; side++) {
            tell(all, "ends " + side, x.ends(side));
            tell(all, "most " + side, x.most(side));
        }
        tell(all, "sum", x.sum());
        tell(all, "met", x.met());
        tell(all, "fewest", x.fewest());
        tell(all, "fault 0", x.fault(0));
        tell(all, "fault 1", x.fault(1));
        return all.toString();
    }

    private static void rows(SledgeVote x, StringBuilder all) {
        for (int what = 0; what < 14; what++) {
            tell(all, "count " + what, x.count(what));
        }
        for (int i = 0; i < 61; i++) {
            for (int what = 0; what < 3; what++) {
                tell(all, "log " + i + " " + what, x.log(i, what));
            }
        }
    }

    private static void tell(StringBuilder all, String call, long answer) {
        all.append(call).append(" is ").append(answer).append('\n');
    }

    static long member(SledgeVote x, int member, int what) {
        try {
            return x.member(member, what);
        } catch (NoSuchElementException none) {
            return Long.MIN_VALUE;
        }
    }

    /** All of it, and all of it again behind each act that is undone: the object is spent then. */
    static String undone(SledgeVote x) {
        StringBuilder all = new StringBuilder(of(x));
        for (int left = x.undo(); left != SledgeVote.NONE; left = x.undo()) {
            tell(all, "undo", left);
            all.append(of(x));
        }
        return all.toString();
    }

    /** All of it behind BACK: the object is spent then. */
    static String back(SledgeVote x) {
        StringBuilder all = new StringBuilder();
        tell(all, "back", x.back());
        return all.append(of(x)).toString();
    }

    static int[] status(SledgeVote x) {
        int[] status = new int[5];
        for (int what = 0; what < status.length; what++) {
            status[what] = x.status(what);
        }
        return status;
    }

    /** The first line in which they are unlike, empty if there is none. */
    static String unlike(String one, String other) {
        if (one.equals(other)) {
            return "";
        }
        String[] a = one.split("\n");
        String[] b = other.split("\n");
        for (int i = 0; i < Math.max(a.length, b.length); i++) {
            String left = i < a.length ? a[i] : "nothing";
            String right = i < b.length ? b[i] : "nothing";
            if (!left.equals(right)) {
                return left + ", not " + right;
            }
        }
        return "";
    }
}
