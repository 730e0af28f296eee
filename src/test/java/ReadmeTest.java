import java.io.ByteArrayOutputStream;
import java.io.File;
import java.io.IOException;
import java.io.PrintStream;
import java.lang.reflect.Method;
import java.lang.reflect.Modifier;
import java.net.URL;
import java.net.URLClassLoader;
import java.nio.file.Files;
import java.nio.file.Path;
import javax.tools.ToolProvider;

/** README.md: its example tells what it says there, and it names every call and every test. */
public final class ReadmeTest {
    private static final Checks CHECKS = new Checks("ReadmeTest");

    public static void main(String[] args) throws IOException, ReflectiveOperationException {
        String page = Files.readString(Path.of("README.md"));
        String[] want = block(page, "text").split("\n");
        String[] got = toldBy(block(page, "java")).split("\\R");
        CHECKS.due("lines that the example tells", got.length, want.length);
        for (int i = 0; i < Math.min(got.length, want.length); i++) {
            CHECKS.due("'" + got[i] + "' instead of '" + want[i] + "'", got[i].equals(want[i]), true);
        }
        for (Method m : SledgeVote.class.getDeclaredMethods()) {
            if (Modifier.isPublic(m.getModifiers())) {
                CHECKS.due(m.getName() + " is named", page.contains("`" + m.getName() + "`"), true);
            }
        }
        for (File test : new File("src/test/java").listFiles()) {
            String name = test.getName().replace(".java", "");
            if (name.endsWith("Test")) {
                CHECKS.due(name + " is named", page.contains("`" + name + "`"), true);
            }
        }
        CHECKS.finish();
    }

    private static String block(String page, String kind) {
        int from = page.indexOf("```" + kind + "\n") + kind.length() + 4;
        return page.substring(from, page.indexOf("```", from));
    }

    private static String toldBy(String source) throws IOException, ReflectiveOperationException {
        Path room = Files.createTempDirectory("readme");
        Path file = Files.writeString(room.resolve("Example.java"), source);
        int failed = ToolProvider.getSystemJavaCompiler().run(null, null, null, "-Xlint:all", "-Werror", "-cp",
            System.getProperty("java.class.path"), "-d", room.toString(), file.toString());
        CHECKS.due("compiling the example", failed, 0);
        ByteArrayOutputStream told = new ByteArrayOutputStream();
        PrintStream before = System.out;
        try (URLClassLoader loader = new URLClassLoader(new URL[] {room.toUri().toURL()})) {
            System.setOut(new PrintStream(told, true));
            loader.loadClass("Example").getMethod("main", String[].class).invoke(null, (Object) new String[0]);
        } finally {
            System.setOut(before);
        }
        for (File made : room.toFile().listFiles()) {
            made.delete();
        }
        Files.delete(room);
        return told.toString();
    }
}
