import java.util.ArrayList;
import java.util.HashMap;
import java.util.LinkedHashSet;
import java.util.List;
import java.util.Map;
import java.util.Random;
import java.util.Set;
import java.util.regex.Matcher;
import java.util.regex.Pattern;

/**
 * FAULT by its definition, without a reader of the kind that the class has: the document's rules of texts stand here
 * as data, and a byte is the fault if no text by these rules begins with all bytes up to it.
 */
public final class GrammarTest {
    private static final Checks CHECKS = new Checks("GrammarTest");
    private static final int DRAWN = 1000;
    private static final String LAW_SIGNS = "y:;?|&!()=<>+-*/[]whpnrc0123456789 y:?;()[]!w>1 xz;";
    private static final String CANTON_SIGNS = "sbimwogryrckdrwlhs0123456789;; ;12m";

    private static final String ALL_CLAUSES = "s;b;bc1;bc2;bc3;bc4;br2;i;ir1;ir2;ir3;m;m;m;m;m;m";

    // A rule's parts: a name of other rules (behind ~), or one sign.
    private static final Map<String, List<String[]>> LAW = lawRules();
    private static final Map<String, String> ITEMS = Map.of("s", "w3-9 o0-8 g1-60 r1-20 y0-9",
        "b", "r1-20 c0-8 k1-9 d0-1", "i", "r0-19", "m", "w1-9 l0-2 h0-9 s0-9");
    private static final Map<String, Integer> MOST = Map.of("s", 1, "b", 6, "i", 4, "m", 6);

    public static void main(String[] args) {
        int drawn = args.length > 0 ? Integer.parseInt(args[0]) : DRAWN;
        Random random = new Random(args.length > 1 ? Long.parseLong(args[1]) : 15);
        for (int i = 0; i < drawn; i++) {
            law(drawnLaw(random));
            law(spoilt(drawnLaw(random), LAW_SIGNS, random));
            canton(drawnCanton(random));
            canton(spoilt(drawnCanton(random), CANTON_SIGNS, random));
        }
        for (String text : new String[] {"", " ", "y", "y:", "y :w ", "y:1 2", "y:12345", "y:[[[[[[[w",
            "y:!!!!!!!w>1?1", "y:((((((w>1))))))?1", "y:(((((([w]>1))))))?1", "y:![[[[[w]]]]]>1?1", "y:![[[[[[w]]]]]]>1?1"}) {
            law(text);
        }
        for (String text : new String[] {"", " ", ";", "m;", "m; ", "mw", "mw0", "mw0;", "mw00", "mw10", "mw100",
            "mw1 0", "mw1w1", "s;s", "b;b;b;b;b;b;b", "i;ir1;ir2;ir3;i", "m;m;m;m;m;m;m", "so8;m", "b;b;m", "i;ir0;m", "s",
            ALL_CLAUSES, ALL_CLAUSES + ";", ALL_CLAUSES + " ; ", ALL_CLAUSES + ";m", ALL_CLAUSES + ";;"}) {
            canton(text);
        }
        CHECKS.finish();
    }

    private static void law(String text) {
        CHECKS.due("fault(1) of '" + text + "'", Checks.fault(1, text), lawFault(text));
    }

    private static void canton(String text) {
        CHECKS.due("fault(0) of '" + text + "'", Checks.fault(0, text), cantonFault(text));
    }

    private static Map<String, List<String[]>> lawRules() {
        Map<String, List<String[]>> rules = new HashMap<>();
        put(rules, "LAW", "~CLAUSE", "~CLAUSE ; ~LAW");
        put(rules, "CLAUSE", "y : ~SUM0", "y : ~CONDITION0 ? ~SUM0");
        put(rules, "NUMBER", "~DIGIT", "~DIGIT ~DIGIT", "~DIGIT ~DIGIT ~DIGIT", "~DIGIT ~DIGIT ~DIGIT ~DIGIT");
        put(rules, "DIGIT", "0", "1", "2", "3", "4", "5", "6", "7", "8", "9");
        for (int n = 0; n <= 6; n++) {
            put(rules, "CONDITION" + n, "~TRUTH" + n, "~TRUTH" + n + " | ~CONDITION" + n);
            put(rules, "TRUTH" + n, "~UNIT" + n, "~UNIT" + n + " & ~TRUTH" + n);
            put(rules, "UNIT" + n, "~SUM" + n + " = ~SUM" + n, "~SUM" + n + " < ~SUM" + n, "~SUM" + n + " > ~SUM" + n);
            put(rules, "SUM" + n, "~TERM" + n, "~TERM" + n + " + ~SUM" + n, "~TERM" + n + " - ~SUM" + n);
            put(rules, "TERM" + n, "~ATOM" + n, "~ATOM" + n + " * ~TERM" + n, "~ATOM" + n + " / ~TERM" + n);
            put(rules, "ATOM" + n, "~NUMBER", "w", "h", "p", "n", "r", "c");
            if (n < 6) {
                put(rules, "UNIT" + n, "! ~UNIT" + (n + 1), "( ~CONDITION" + (n + 1) + " )");
                put(rules, "ATOM" + n, "[ ~SUM" + (n + 1) + " ]");
            }
        }
        return rules;
    }

    private static void put(Map<String, List<String[]>> rules, String name, String... ways) {
        List<String[]> list = rules.computeIfAbsent(name, unused -> new ArrayList<>());
        for (String way : ways) {
            list.add(way.split(" "));
        }
    }

    // A way that has been gone up to one of its parts, and where it began.
    private record Gone(String name, String[] way, int part, int from) {
    }

    // By Earley: as long as there is a way that has been gone so far, a text can go on.
    private static int lawFault(String text) {
        List<Set<Gone>> sets = new ArrayList<>();
        Set<Gone> first = new LinkedHashSet<>();
        for (String[] way : LAW.get("LAW")) {
            first.add(new Gone("LAW", way, 0, 0));
        }
        sets.add(first);
        boolean whole = closed(sets);
        for (int i = 0; i < text.length(); i++) {
            if (text.charAt(i) == ' ') {
                continue;
            }
            boolean parted = i > 0 && text.charAt(i - 1) == ' ' && text.substring(0, i).matches(".*[0-9] +");
            char sign = parted && Character.isDigit(text.charAt(i)) ? '#' : text.charAt(i);
            Set<Gone> next = new LinkedHashSet<>();
            for (Gone gone : sets.get(sets.size() - 1)) {
                if (gone.part < gone.way.length && gone.way[gone.part].equals("" + sign)) {
                    next.add(new Gone(gone.name, gone.way, gone.part + 1, gone.from));
                }
            }
            if (next.isEmpty()) {
                return i;
            }
            sets.add(next);
            whole = closed(sets);
        }
        return whole ? SledgeVote.NONE : text.length();
    }

    /** Takes all ways that begin or end here; whether a whole text ends here. */
    private static boolean closed(List<Set<Gone>> sets) {
        int here = sets.size() - 1;
        List<Gone> queue = new ArrayList<>(sets.get(here));
        boolean whole = false;
        for (int i = 0; i < queue.size(); i++) {
            Gone gone = queue.get(i);
            List<Gone> more = new ArrayList<>();
            if (gone.part == gone.way.length) {
                whole = whole || gone.name.equals("LAW") && gone.from == 0;
                for (Gone outer : sets.get(gone.from)) {
                    if (outer.part < outer.way.length && outer.way[outer.part].equals("~" + gone.name)) {
                        more.add(new Gone(outer.name, outer.way, outer.part + 1, outer.from));
                    }
                }
            } else if (gone.way[gone.part].startsWith("~")) {
                String name = gone.way[gone.part].substring(1);
                for (String[] way : LAW.get(name)) {
                    more.add(new Gone(name, way, 0, here));
                }
            }
            for (Gone one : more) {
                if (sets.get(here).add(one)) {
                    queue.add(one);
                }
            }
        }
        return whole;
    }

    private static String drawnLaw(Random random) {
        StringBuilder text = new StringBuilder();
        write("LAW", random, text, 0);
        return text.length() <= 230 ? text.toString() : text.substring(0, 230);
    }

    private static void write(String name, Random random, StringBuilder text, int deep) {
        List<String[]> ways = LAW.get(name);
        // Far down, only ways without another of the same kind, so that a text ends.
        boolean atomFarDown = name.startsWith("ATOM") && deep > 14;
        int most = deep > 30 && !name.equals("DIGIT") ? 1 : atomFarDown ? 7 : ways.size();
        String[] way = ways.get(random.nextInt(most));
        boolean number = name.equals("NUMBER");
        for (int i = 0; i < way.length; i++) {
            if (!number && !name.equals("DIGIT") && random.nextInt(40) == 0) {
                text.append(' ');
            }
            if (way[i].startsWith("~")) {
                write(way[i].substring(1), random, text, deep + 1);
            } else {
                text.append(way[i]);
            }
        }
    }

    private static String spoilt(String text, String signs, Random random) {
        StringBuilder b = new StringBuilder(text);
        for (int n = random.nextInt(3); n >= 0; n--) {
            int at = random.nextInt(b.length() + 1);
            char sign = signs.charAt(random.nextInt(signs.length()));
            int how = random.nextInt(4);
            if (how == 0 || at == b.length()) {
                b.insert(at, sign);
            } else if (how == 1) {
                b.deleteCharAt(at);
            } else if (how == 2) {
                b.setCharAt(at, sign);
            } else {
                b.setLength(at);
            }
        }
        return b.length() <= 240 ? b.toString() : b.substring(0, 240);
    }

    private static String drawnCanton(Random random) {
        List<String> clauses = new ArrayList<>();
        boolean full = random.nextInt(10) == 0;
        for (String kind : new String[] {"s", "b", "i", "m"}) {
            int most = MOST.get(kind) + (random.nextInt(12) == 0 ? 1 : 0);
            for (int n = full ? MOST.get(kind) : random.nextInt(most + 1); n > 0; n--) {
                clauses.add(drawnClause(kind, random));
            }
        }
        java.util.Collections.shuffle(clauses, random);
        String text = String.join(random.nextInt(8) == 0 ? " ; " : ";", clauses);
        return text.length() <= 230 ? text : text.substring(0, 230);
    }

    private static String drawnClause(String kind, Random random) {
        StringBuilder text = new StringBuilder(kind);
        List<String> items = new ArrayList<>(List.of(ITEMS.get(kind).split(" ")));
        java.util.Collections.shuffle(items, random);
        for (String item : items.subList(0, random.nextInt(items.size() + 1))) {
            int dash = item.indexOf('-');
            int low = Integer.parseInt(item.substring(1, dash));
            int high = Integer.parseInt(item.substring(dash + 1));
            int beyond = random.nextInt(30) == 0 ? 1 : 0;
            int number = Math.max(0, low - beyond + random.nextInt(high - low + 1 + 2 * beyond));
            text.append(random.nextInt(30) == 0 ? " " : "").append(item.charAt(0));
            text.append(random.nextInt(30) == 0 ? " " : "").append(number < 10 && random.nextInt(9) == 0 ? "0" : "");
            text.append(number);
        }
        return text.toString();
    }

    private static int cantonFault(String text) {
        int stops = text.length();
        for (int i = 0; i < text.length(); i++) {
            if (text.charAt(i) != ' ' && !canGoOn(text.substring(0, i + 1))) {
                stops = i;
                break;
            }
        }
        int number = wrongNumber(text, stops);
        if (number >= 0) {
            return number;
        }
        return stops < text.length() || !isWhole(text) ? stops : SledgeVote.NONE;
    }

    // One sign more makes a row of whole clauses of whatever such a text can go on from. Behind all clauses that can
    // be, there is none, but a ; is read as no fault by itself there (see NOTES.md).
    private static boolean canGoOn(String begun) {
        if (begun.endsWith(";") && areClauses(begun.substring(0, begun.length() - 1))) {
            return true;
        }
        for (String more : new String[] {"", "1", "s", "b", "i", "m"}) {
            if (areClauses(begun + more)) {
                return true;
            }
        }
        return false;
    }

    private static boolean areClauses(String text) {
        Map<String, Integer> told = new HashMap<>();
        for (String clause : text.split(";", -1)) {
            String kind = clause.trim().isEmpty() ? "" : clause.trim().substring(0, 1);
            if (!ITEMS.containsKey(kind) || told.merge(kind, 1, Integer::sum) > MOST.get(kind)) {
                return false;
            }
            String letters = ITEMS.get(kind).replaceAll("[-0-9 ]", "");
            String item = " *([" + letters + "]) *[0-9]{1,2}";
            boolean once = !clause.substring(clause.indexOf(kind) + 1).matches(".*([a-z]).*\\1.*");
            if (!once || !clause.matches(" *" + kind + "(" + item + ")* *")) {
                return false;
            }
        }
        return true;
    }

    /** The last digit of the first number that is out of bounds, all of it and no third digit ahead of a place. */
    private static int wrongNumber(String text, int ahead) {
        Matcher number = Pattern.compile("([a-z]) *([0-9]+)").matcher(text.substring(0, ahead));
        while (number.find()) {
            boolean third = ahead < text.length() && number.end() == ahead && Character.isDigit(text.charAt(ahead));
            String clause = text.substring(text.lastIndexOf(';', number.start()) + 1).trim();
            for (String item : ITEMS.get(clause.substring(0, 1)).split(" ")) {
                int dash = item.indexOf('-');
                int told = Integer.parseInt(number.group(2));
                boolean within = told >= Integer.parseInt(item.substring(1, dash))
                    && told <= Integer.parseInt(item.substring(dash + 1));
                if (item.startsWith(number.group(1)) && !within && !third) {
                    return number.end() - 1;
                }
            }
        }
        return -1;
    }

    private static boolean isWhole(String text) {
        if (!areClauses(text) || !text.matches(".*(^|;) *m.*")) {
            return false;
        }
        int width = 5;
        int top = 2;
        Set<Integer> places = new LinkedHashSet<>();
        List<Integer> columns = new ArrayList<>();
        for (String told : text.replace(" ", "").split(";")) {
            if (told.startsWith("s")) {
                width = item(told, 'w', 5);
                top = item(told, 'o', 2);
            } else if (told.startsWith("b")) {
                columns.add(item(told, 'c', 0));
                if (!places.add(item(told, 'r', 1) * 10 + item(told, 'c', 0))) {
                    return false;
                }
            } else if (told.startsWith("i") && !places.add(1000 + item(told, 'r', 0))) {
                return false;
            }
        }
        columns.add(top);
        for (int column : columns) {
            if (column >= width) {
                return false;
            }
        }
        return true;
    }

    private static int item(String clause, char letter, int usual) {
        Matcher item = Pattern.compile(letter + "([0-9]+)").matcher(clause.substring(1));
        return item.find() ? Integer.parseInt(item.group(1)) : usual;
    }
}
