import java.io.IOException;
import java.lang.reflect.Method;
import java.nio.file.Files;
import java.nio.file.Path;
import java.util.regex.Matcher;
import java.util.regex.Pattern;

/** A whole life of 512 calls, and what README.md says of the calls. */
final class UseTests {
    private static final String LIFE = "An object is used for at most 512 calls after it has been made;";
    private static final Pattern EXAMPLE_LINE = Pattern.compile("(?m)^shard\\..*$");
    private static final Pattern EXAMPLE_CALL = Pattern.compile("shard\\.(\\w+)\\((.*?)\\); +// (-?\\d+): .+");
    private static final Pattern FACE_CALL = Pattern.compile("(?m)^ +public (?:int|long) (\\w+\\(.*?\\));$");
    private static final String SOURCE_LINE = "long source = 42L | 1L << 32 | 2L << 36;";
    private static final long SOURCE = 42L | 1L << 32 | 2L << 36;

    private UseTests() {
    }

    static void run() {
        Sentence.test("what it is", LIFE, "writes and commits to the last call", UseTests::lifeOfWrites);
        Sentence.test("what it is", LIFE, "as many SEQ as there can be", UseTests::lifeOfFills);
        Check.test("README.md: the example answers as it says", UseTests::example);
        Check.test("README.md: every call of the document's face", UseTests::calls);
        Check.test("README.md: every constant", UseTests::constants);
    }

    private static void lifeOfWrites() {
        ShardEngine x = new ShardEngine();
        int seq = 0;
        for (int flushes = 0; flushes < 39; flushes++) {
            for (int i = 0; i < 12; i++) {
                Check.due("write", x.write(1, seq % 16, seq, -1), seq);
                seq++;
            }
            Check.due("flush", x.flush(), 1);
        }
        Check.due("call 508: crash", x.crash(0), 0);
        Check.due("call 509: recover", x.recover(0), 0);
        Check.due("call 510: VERSION", x.known(3, 2), 30);
        Check.due("call 511: VERSION", x.known(4, 2), 29);
        Check.due("call 512: get", x.get(3), 467);
    }

    private static void lifeOfFills() {
        ShardEngine x = new ShardEngine();
        for (int round = 0; round < 170; round++) {
            Check.due("replica", x.replica(3, 0, 30 * round + 29, 0, 0L), 2);
            Check.due("fill", x.fill(), 29);
            if (round < 169) {
                Check.due("flush", x.flush(), 1);
            }
        }
        Check.due("call 510: crash", x.crash(240), 0);
        Check.due("call 511: recover", x.recover(-1), 30);
        Check.due("call 512: CHECKPOINT", x.info(1), 5099);
    }

    private static void example() {
        String readme = readme();
        Check.holds("it makes the object", readme.contains("\nShardEngine shard = new ShardEngine();\n"));
        Check.holds("it makes the source", readme.contains("\n" + SOURCE_LINE));
        ShardEngine shard = new ShardEngine();
        Matcher lines = EXAMPLE_LINE.matcher(readme);
        int count = 0;
        while (lines.find()) {
            Matcher call = EXAMPLE_CALL.matcher(lines.group());
            boolean tells = call.matches();
            Check.holds("a call with its answer: " + lines.group(), tells);
            if (tells) {
                Check.due(lines.group(), answer(shard, call.group(1), call.group(2)), Long.parseLong(call.group(3)));
            }
            count++;
        }
        Check.holds("it has calls", count > 0);
    }

    private static long answer(ShardEngine shard, String name, String given) {
        String[] words = given.isEmpty() ? new String[0] : given.split(", ");
        for (Method method : ShardEngine.class.getDeclaredMethods()) {
            if (!method.getName().equals(name)) {
                continue;
            }
            Class<?>[] types = method.getParameterTypes();
            Object[] values = new Object[types.length];
            for (int i = 0; i < types.length; i++) {
                values[i] = value(types[i], words[i]);
            }
            try {
                return ((Number) method.invoke(shard, values)).longValue();
            } catch (ReflectiveOperationException e) {
                throw new IllegalStateException(name, e);
            }
        }
        throw new IllegalStateException("no call " + name);
    }

    private static Object value(Class<?> type, String word) {
        if (type == boolean.class) {
            return Boolean.valueOf(word);
        }
        if (type == long.class) {
            return word.equals("source") ? SOURCE : Long.parseLong(word.replace("L", ""));
        }
        return Integer.valueOf(word);
    }

    private static void calls() {
        String readme = readme();
        Matcher face = FACE_CALL.matcher(Sentence.documentText());
        int count = 0;
        while (face.find()) {
            Check.holds("a row of " + face.group(1), readme.contains("\n| `" + face.group(1) + "` | "));
            count++;
        }
        Check.due("calls of the face", count, 16);
    }

    private static void constants() {
        String[] rows = {"`REFUSED` | " + ShardEngine.REFUSED, "`CONFLICT` | " + ShardEngine.CONFLICT,
            "`FULL` | " + ShardEngine.FULL, "`DOWN` | " + ShardEngine.DOWN, "`CORRUPT` | " + ShardEngine.CORRUPT};
        String readme = readme();
        for (String row : rows) {
            Check.holds("a row of " + row, readme.contains("\n| " + row + " | "));
        }
    }

    private static String readme() {
        try {
            return Files.readString(Path.of("README.md"));
        } catch (IOException e) {
            throw new IllegalStateException("the tests run in the project's folder", e);
        }
    }
}
