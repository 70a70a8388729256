import java.io.IOException;
import java.lang.reflect.Field;
import java.lang.reflect.Method;
import java.lang.reflect.Modifier;
import java.nio.file.Files;
import java.nio.file.Path;

/** README.md tells the class as it is: its example runs here word by word, and no public member is missing. */
public final class ReadmeTest {
    private static final Path README = Path.of("README.md");
    private static final Path SOURCE = Path.of("src/test/java/ReadmeTest.java");

    private ReadmeTest() {
    }

    public static void main(String[] args) throws IOException, IllegalAccessException {
        Due.part("README.md");
        String readme = Files.readString(README);
        example();
        exampleIsTheReadmes(readme, Files.readString(SOURCE));
        members(readme);
        Due.end();
    }

    private static void example() {
        IdInterconnect bus = new IdInterconnect(8, 4);  // at most 8 ACTIVE bursts of a manager, 4 at a subordinate
        int write = bus.issueWrite(0, 1, 4, 2);         // manager 0, id 1, words 4 and 5: ticket 0
        bus.writeData(0, 11);
        bus.writeData(0, 22);
        bus.step(4);                                    // accepted, two values, the response: ST_OKAY
        int read = bus.issueRead(1, 0, 4, 2);           // ticket 1
        bus.step(3);                                    // accepted, two beats: ST_OKAY
        int second = bus.readData(read, 1);             // 22
        int refused = bus.issueRead(1, 0, 7, 2);        // ERR_ARG: words 7 and 8 are in two memories
        Due.is("write", write, 0);
        Due.is("status(write)", bus.status(write), IdInterconnect.ST_OKAY);
        Due.is("doneCycle(write)", bus.doneCycle(write), 4);
        Due.is("read", read, 1);
        Due.is("status(read)", bus.status(read), IdInterconnect.ST_OKAY);
        Due.is("doneCycle(read)", bus.doneCycle(read), 7);
        Due.is("second", second, 22);
        Due.is("refused", refused, IdInterconnect.ERR_ARG);
    }

    private static void exampleIsTheReadmes(String readme, String source) {
        String opening = "```java\n";
        int start = readme.indexOf(opening) + opening.length();
        String block = readme.substring(start, readme.indexOf("```", start));
        Due.yes("an example", readme.contains(opening) && !block.isBlank());
        Due.yes("the example is the one that runs here", source.contains(block.indent(8)));
    }

    private static void members(String readme) throws IllegalAccessException {
        Due.yes("the constructor", readme.contains("`new IdInterconnect(limit, cap)`"));
        for (Method m : IdInterconnect.class.getDeclaredMethods()) {
            if (Modifier.isPublic(m.getModifiers())) {
                Due.yes(m.getName(), readme.contains("| `" + m.getName() + "("));
            }
        }
        for (Field f : IdInterconnect.class.getDeclaredFields()) {
            if (Modifier.isPublic(f.getModifiers())) {
                Due.yes(f.getName(), readme.contains("`" + f.getName() + " = " + f.getInt(null) + "`"));
            }
        }
    }
}
