import java.io.IOException;
import java.lang.reflect.Method;
import java.lang.reflect.Modifier;
import java.nio.file.Files;
import java.nio.file.Path;
import java.util.regex.Matcher;
import java.util.regex.Pattern;

/** README.md says what is so: its calls answer what stands behind them, and its table has every call of the face. */
public final class ReadmeTest {
  private static final Pattern CALL = Pattern.compile("tree\\.(\\w+)\\((.*?)\\); *// (throws )?([-\\w]+)");

  // Fewer would mean that the README is no longer written as CALL reads it.
  private static final int LEAST_CALLS = 10;

  public static void main(String[] args) throws IOException {
    Runs runs = new Runs();
    String text = Files.readString(Path.of("README.md"));
    int calls = playCalls(runs, text);
    runs.due("at least " + LEAST_CALLS + " calls", String.valueOf(calls >= LEAST_CALLS), "true");
    findCallsInTable(runs, text);
    runs.end();
  }

  private static int playCalls(Runs runs, String text) {
    CloneTree tree = new CloneTree();
    Matcher call = CALL.matcher(text);
    int calls = 0;
    while (call.find()) {
      String plain = (call.group(1) + " " + call.group(2).replace(",", "")).trim();
      String answer = call.group(3) == null ? call.group(4) : "throws." + call.group(4);
      runs.due(plain, Runs.answer(tree, plain), answer);
      calls++;
    }
    return calls;
  }

  private static void findCallsInTable(Runs runs, String text) {
    for (Method method : CloneTree.class.getDeclaredMethods()) {
      if (Modifier.isPublic(method.getModifiers())) {
        boolean told = text.contains("\n| `" + method.getName() + "(");
        runs.due("the table of calls has " + method.getName(), String.valueOf(told), "true");
      }
    }
  }
}
