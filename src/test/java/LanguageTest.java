import java.io.IOException;
import java.lang.reflect.Constructor;
import java.lang.reflect.Field;
import java.lang.reflect.InvocationTargetException;
import java.lang.reflect.Method;
import java.lang.reflect.Modifier;
import java.nio.file.Files;
import java.nio.file.Path;
import java.util.NoSuchElementException;
import java.util.Set;
import java.util.TreeSet;

/** Those rules of LANGUAGE.md that the source's text and the class's face can tell, and that no call throws. */
public final class LanguageTest {
    private static final Checks CHECKS = new Checks("LanguageTest");
    private static final String FACE = "feed/5 end/1 fault/1 text/1 rule/1 bump/2 member/2 law/1 sum/0 lean/2 change/2 "
        + "heel/1 strew/1 rows/1 walk/0 dogs/1 sessions/2 status/1 undo/0 log/2 ends/1 ahead/1 turn/2 seating/2 "
        + "power/1 game/5 rests/3 knows/2 straw/2 fewest/0 seen/3 who/2 best/1 odds/2 shares/2 most/1 stays/1 met/0 "
        + "image/0 back/0 count/1";
    private static final int[] FAR = {Integer.MIN_VALUE, Integer.MIN_VALUE + 1, -1000001, -2, -1, 0, 1, 2, 3, 5, 6, 7,
        20, 21, 99, 241, Integer.MAX_VALUE - 1, Integer.MAX_VALUE};

    public static void main(String[] args) throws IOException, ReflectiveOperationException {
        face();
        classesInside();
        source(Files.readString(Path.of(args.length > 0 ? args[0] : "src/main/java/SledgeVote.java")));
        nothingThrows();
        CHECKS.finish();
    }

    private static void face() {
        Set<String> want = new TreeSet<>(Set.of(FACE.split(" ")));
        Set<String> got = new TreeSet<>();
        Set<String> names = new TreeSet<>();
        for (Method m : SledgeVote.class.getDeclaredMethods()) {
            if (Modifier.isPublic(m.getModifiers())) {
                got.add(m.getName() + "/" + m.getParameterCount());
                names.add(m.getName());
            }
        }
        CHECKS.due("the face is " + got, got.equals(want), true);
        for (Method m : SledgeVote.class.getDeclaredMethods()) {
            int sight = m.getModifiers() & (Modifier.PUBLIC | Modifier.PRIVATE);
            CHECKS.due(m + " is public or private", sight != 0, true);
            boolean borne = Modifier.isPrivate(m.getModifiers()) && names.contains(m.getName());
            CHECKS.due(m + " bears a name of its own", borne, false);
        }
        for (Field f : SledgeVote.class.getDeclaredFields()) {
            boolean constant = f.getName().equals("NONE") || f.getName().equals("HIDDEN");
            CHECKS.due(f + " is as it must be seen", Modifier.isPublic(f.getModifiers()), constant);
            CHECKS.due(f + " is public or private", (f.getModifiers() & 3) != 0, true);
        }
        CHECKS.due("final", Modifier.isFinal(SledgeVote.class.getModifiers()), true);
        CHECKS.due("one constructor", SledgeVote.class.getConstructors().length, 1);
    }

    private static void classesInside() {
        Class<?>[] inside = SledgeVote.class.getDeclaredClasses();
        CHECKS.due("at most twelve classes", inside.length + 1 <= 12, true);
        for (Class<?> c : inside) {
            CHECKS.due(c + " is static", Modifier.isStatic(c.getModifiers()), true);
            int fields = 0;
            for (Field f : c.getDeclaredFields()) {
                boolean fixed = Modifier.isStatic(f.getModifiers());
                CHECKS.due(f + " is final, if static", !fixed || Modifier.isFinal(f.getModifiers()), true);
                fields += fixed ? 0 : 1;
            }
            CHECKS.due(c + " has few fields", fields <= 20, true);
            for (Method m : c.getDeclaredMethods()) {
                CHECKS.due(m + " has few parameters", m.getParameterCount() <= 7, true);
            }
            for (Constructor<?> made : c.getDeclaredConstructors()) {
                CHECKS.due(made + " has few parameters", made.getParameterCount() <= 7, true);
            }
        }
    }

    private static void source(String text) {
        String[] banned = {"catch", "try {", "finally", "synchronized", "assert", "->", "::", "Exact(", "System.out",
            "static {", "instanceof", "double", "float", "java.io", "java.time", "Random", "Thread", "record "};
        for (String word : banned) {
            CHECKS.due("no " + word, text.contains(word), false);
        }
        CHECKS.due("one throw", text.split("throw new ", -1).length - 1, 1);
        int begun = 0;
        String[] lines = text.split("\n");
        for (int i = 0; i < lines.length; i++) {
            CHECKS.due("line " + (i + 1) + " is short", lines[i].length() <= 120, true);
            for (char c : lines[i].toCharArray()) {
                CHECKS.due("signs are 1 to 127", c < 128, true);
            }
            if (lines[i].matches("( {4}| {8})(\\w+ )*\\w+(\\[\\])?( \\w+)?\\(.*\\) (throws \\w+ )?\\{")) {
                begun = i;
            }
            if (lines[i].equals("    }") || lines[i].equals("        }")) {
                CHECKS.due("the method of line " + (begun + 1) + " is short", i - begun <= 60, true);
            }
        }
    }

    private static SledgeVote[] states() {
        SledgeVote empty = new SledgeVote();
        SledgeVote full = Checks.of("sw9o8g1r20y9;br1c8k5;br2c7k9d1;br3c0;br20c8;br5c5;br6c6;i;ir19;ir5;ir6"
            + ";ml2;mw9l0h0;m;mw5l2h9s9;m;mh5l2");
        Checks.law(full, "y:w>3&h<5|n=3?[w*9999+h]/[p-1];y:r*c");
        full.rows(2);
        full.seen(20, 8, false);
        full.image();
        SledgeVote small = Checks.of("sr1;m");
        small.rows(1);
        return new SledgeVote[] {empty, full, small};
    }

    private static void nothingThrows() throws ReflectiveOperationException {
        for (Method m : SledgeVote.class.getDeclaredMethods()) {
            if (Modifier.isPublic(m.getModifiers())) {
                int calls = m.getParameterCount() < 4 ? 6000 : 3000;
                java.util.Random random = new java.util.Random(m.getName().hashCode());
                for (SledgeVote x : states()) {
                    for (int i = 0; i < calls && (i == 0 || m.getParameterCount() > 0); i++) {
                        call(x, m, random, i);
                    }
                }
            }
        }
    }

    private static void call(SledgeVote x, Method m, java.util.Random random, int i)
        throws ReflectiveOperationException {
        Object[] args = new Object[m.getParameterCount()];
        for (int a = 0; a < args.length; a++) {
            int far = FAR[args.length == 1 ? i % FAR.length : random.nextInt(FAR.length)];
            Class<?> type = m.getParameterTypes()[a];
            args[a] = type == boolean.class ? (Object) random.nextBoolean()
                : type == long.class ? (Object) (far * 4294967297L) : (Object) far;
        }
        if (args.length == 1 && i >= FAR.length) {
            return;
        }
        boolean fine = true;
        try {
            m.invoke(x, args);
        } catch (InvocationTargetException thrown) {
            boolean due = m.getName().equals("member") && thrown.getCause().getClass() == NoSuchElementException.class;
            fine = due;
        }
        CHECKS.due(m.getName() + java.util.Arrays.toString(args) + " throws nothing", fine, true);
    }
}
