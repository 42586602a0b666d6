/** Long mixed runs of calls, each answer held against Model's. The same runs every time. */
public final class ModelRunsTest {
  private static final int RUNS = 400;
  private static final int CALLS = 512;
  private static final int[] WILD = {-1, -2147483648, 2147483647, 8, 31, 32, 33, 39, 40};
  private static final String[] NAMES = {
    "make", "share", "share", "drop", "write", "write", "write", "write", "read", "lay", "lay", "size", "blank", "own",
    "sweep", "merge", "common", "holders", "about", "about", "count", "count"
  };

  private final Runs runs;
  private final int run;
  private final CloneTree x = new CloneTree();
  private final Model model = new Model();
  private long state;
  private int calls = 0;

  private ModelRunsTest(Runs runs, int run) {
    this.runs = runs;
    this.run = run;
    this.state = run * 7919L + 17;
  }

  public static void main(String[] args) {
    Runs runs = new Runs();
    for (int run = 0; run < RUNS; run++) {
      new ModelRunsTest(runs, run).play();
    }
    runs.end();
  }

  private void play() {
    // Every fourth run begins near the limit of frames, and every fourth at the limit of rows.
    if (run % 4 == 0) {
      fillFrames(190 + below(11));
    } else if (run % 4 == 1) {
      fillRows(36 + below(5));
    }
    while (calls < CALLS) {
      callSome(NAMES[below(NAMES.length)]);
    }
  }

  private void fillFrames(int frames) {
    for (int r = 0; r < 7; r++) {
      call("make", 32);
    }
    for (int i = 0; i < frames; i++) {
      call("write", i / 32, i % 32, below(8), 1 + below(3));
    }
  }

  private void fillRows(int rows) {
    for (int r = 0; r < rows; r++) {
      call("make", below(6));
    }
  }

  private void callSome(String name) {
    switch (name) {
      case "make" -> call(name, number(run % 2 == 0 ? 33 : 6));
      case "share" -> call(name, row(), page(), number(6));
      case "drop" -> {
        // Rare, or the rows and frames would never be many.
        if (below(4) == 0) {
          call(name, row());
        }
      }
      case "write" -> call(name, row(), page(), number(8), below(4) - 1);
      case "read" -> call(name, row(), page(), number(8));
      case "lay" -> call(name, row(), page(), row(), page(), number(6));
      case "size" -> call(name, row(), number(33));
      case "blank", "own", "holders" -> call(name, row(), page());
      case "common" -> call(name, row(), page(), row(), page());
      case "about" -> call(name, row(), number(5));
      case "count" -> call(name, number(4));
      default -> {
        if (below(6) == 0) {
          call(name);
        }
      }
    }
  }

  private void call(String name, int... arguments) {
    if (calls == CALLS) {
      return;
    }
    calls++;
    StringBuilder text = new StringBuilder("run " + run + ", call " + calls + ": " + name);
    for (int argument : arguments) {
      text.append(' ').append(argument);
    }
    runs.due(text.toString(), Runs.answer(x, name, arguments), Runs.answer(model, name, arguments));
  }

  private int row() {
    return number(run % 4 == 1 ? 40 : 8);
  }

  private int page() {
    return number(run % 2 == 0 ? 32 : 6);
  }

  private int number(int bound) {
    return below(24) == 0 ? WILD[below(WILD.length)] : below(bound);
  }

  private int below(int bound) {
    state = state * 6364136223846793005L + 1442695040888963407L;
    return (int) ((state >>> 33) % bound);
  }
}
