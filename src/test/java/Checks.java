/** Counts answers that are not as due, and feeds texts. */
final class Checks {
    private final String name;
    private int checked;
    private int wrong;

    Checks(String name) {
        this.name = name;
    }

    void due(String call, long got, long want) {
        checked++;
        if (got != want) {
            wrong++;
            System.out.println(name + ": " + call + " answered " + got + ", due is " + want);
        }
    }

    void due(String call, boolean got, boolean want) {
        due(call, got ? 1 : 0, want ? 1 : 0);
    }

    void finish() {
        System.out.println(name + ": " + checked + " answers checked, " + wrong + " wrong");
        if (wrong != 0 || checked == 0) {
            System.exit(1);
        }
    }

    /** The text as numbers for feed, twenty bytes a row of five. */
    static int[][] numbers(String text) {
        int[][] rows = new int[(text.length() + 19) / 20][5];
        for (int i = 0; i < text.length(); i++) {
            rows[i / 20][i % 20 / 4] |= text.charAt(i) << 24 - i % 4 * 8;
        }
        return rows;
    }

    static void put(SledgeVote x, String text) {
        for (int[] n : numbers(text)) {
            x.feed(n[0], n[1], n[2], n[3], n[4]);
        }
    }

    /** A new object with a canton. */
    static SledgeVote of(String canton) {
        SledgeVote x = new SledgeVote();
        canton(x, canton);
        return x;
    }

    static int canton(SledgeVote x, String text) {
        x.end(0);
        put(x, text);
        return x.text(0);
    }

    /** A law that holds from now on. */
    static int law(SledgeVote x, String text) {
        x.end(0);
        put(x, text);
        int number = x.text(1);
        x.law(number);
        return number;
    }

    /** The fault of a text on a new object. */
    static int fault(int sort, String text) {
        SledgeVote x = new SledgeVote();
        put(x, text);
        return x.fault(sort);
    }
}
