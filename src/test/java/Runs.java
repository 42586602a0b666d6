import java.lang.reflect.InvocationTargetException;
import java.lang.reflect.Method;
import java.util.function.IntFunction;

/** Plays runs of calls, written as lines "name arguments = answer that is due", on new objects. */
final class Runs {
  private static final int MOST_CALLS = 512;
  private int wrong = 0;

  void play(String run, String... parts) {
    CloneTree x = new CloneTree();
    int calls = 0;
    for (String line : String.join("\n", parts).split("\n")) {
      if (!line.isBlank()) {
        playLine(x, run, line.trim());
        calls++;
      }
    }
    if (calls > MOST_CALLS) {
      tell(run + ": has " + calls + " calls, and nothing is promised beyond " + MOST_CALLS);
    }
  }

  /** Lines that are made from numbers, to stand among the parts of a run. */
  static String lines(int from, int to, IntFunction<String> line) {
    StringBuilder all = new StringBuilder();
    for (int i = from; i < to; i++) {
      all.append(line.apply(i)).append('\n');
    }
    return all.toString();
  }

  void end() {
    System.out.println(wrong == 0 ? "all answers are as due" : wrong + " answers are not as due");
    if (wrong != 0) {
      System.exit(1);
    }
  }

  void due(String what, String got, String want) {
    if (!got.equals(want)) {
      tell(what + " answered " + got + ", due is " + want);
    }
  }

  private void tell(String text) {
    wrong++;
    System.out.println(text);
  }

  private void playLine(CloneTree x, String run, String line) {
    String[] sides = line.split(" = ");
    due(run + ": " + sides[0], answer(x, sides[0]), sides[1].trim());
  }

  /** As below, for a call that is written "name arguments". */
  static String answer(Object x, String call) {
    String[] words = call.split(" ");
    int[] arguments = new int[words.length - 1];
    for (int i = 0; i < arguments.length; i++) {
      arguments[i] = Integer.parseInt(words[i + 1]);
    }
    return answer(x, words[0], arguments);
  }

  /** What the call answers, as a text; throws.X if it throws an X. */
  static String answer(Object x, String name, int... arguments) {
    Object[] boxed = new Object[arguments.length];
    Class<?>[] types = new Class<?>[arguments.length];
    for (int i = 0; i < arguments.length; i++) {
      boxed[i] = arguments[i];
      types[i] = int.class;
    }
    try {
      Method method = x.getClass().getDeclaredMethod(name, types);
      return String.valueOf(method.invoke(x, boxed));
    } catch (InvocationTargetException e) {
      return "throws." + e.getCause().getClass().getSimpleName();
    } catch (ReflectiveOperationException e) {
      return "no such method";
    }
  }
}
