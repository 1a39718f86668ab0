import java.io.IOException;
import java.lang.reflect.Method;
import java.nio.charset.StandardCharsets;
import java.nio.file.Files;
import java.nio.file.Path;
import java.util.regex.Matcher;
import java.util.regex.Pattern;

/** README.md tells the truth: its calls answer as it says, and each call of the face is in it. */
public final class ReadmeTest {
    private static final Pattern CALL = Pattern.compile("(?m)^posts\\.(\\S.*\\)); +// ([^:\\s]+)(:.*)?$");

    private final Checks checks = new Checks();

    private void callsAnswerAsTold(String text) {
        Posts posts = new Posts();
        int calls = 0;
        Matcher told = CALL.matcher(text);
        while (told.find()) {
            String call = told.group(1);
            checks.same(call, told.group(2), () -> posts.answer(call));
            calls++;
        }
        long lines = text.lines().filter(line -> line.startsWith("posts.")).count();
        checks.same("calls that are told", lines, () -> posts.calls());
        checks.same("there are some", true, () -> lines > 0);
    }

    private void eachCallIsTold(String text) {
        for (Method method : FingerPosts.class.getMethods()) {
            if (method.getDeclaringClass() == FingerPosts.class) {
                checks.same(method.getName() + " has a row", true,
                    () -> text.contains("\n| `" + method.getName() + "("));
            }
        }
    }

    public static void main(String[] args) throws IOException {
        ReadmeTest test = new ReadmeTest();
        String text = Files.readString(Path.of("README.md"), StandardCharsets.UTF_8);
        test.callsAnswerAsTold(text);
        test.eachCallIsTold(text);
        test.checks.end("ReadmeTest");
    }
}
