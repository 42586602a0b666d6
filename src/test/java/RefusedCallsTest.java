import java.util.ArrayList;
import java.util.List;

/**
 * "A call that throws changes nothing", for refused calls of every kind: an object that refused one answers a long list
 * of questions as one does that was never called so. Each refusal is tried alone, behind the calls that make its state.
 */
public final class RefusedCallsTest implements Scripts {
  private static final int MOST_CALLS = 512;

  // Row 0 of 3 pages, row 1 that has two of them in common, row 2 not there any more, row 3 of no pages.
  private static final String FEW_ROWS =
      "make 3 = 0\nwrite 0 0 0 7 = 0\nwrite 0 2 7 9 = 0\nshare 0 0 2 = 1\nwrite 1 1 3 4 = 0\nmake 2 = 2\nmake 0 = 3\n"
          + "write 2 0 0 5 = 0\ndrop 2 = 1\n";

  // The frame of page 0 of row 0 is in common with page 8 of row 6.
  private static final String ALL_FRAMES = TWO_HUNDRED_FRAMES + "lay 6 8 0 0 1 = 0\n";

  private static final String ALL_ROWS_AND_FRAMES = ALL_FRAMES + Runs.lines(7, 40, i -> "make 2 = " + i);

  private static final String[] LEAST_AND_MOST = {"-2147483648", "-1", "2147483647"};

  private final Runs runs;
  private final String name;
  private final List<String> before;
  private final List<List<String>> questions;
  private final List<String> untouched;

  private RefusedCallsTest(Runs runs, String name, String script, int rows, int pages) {
    this.runs = runs;
    this.name = name;
    runs.play(name, script);
    before = calls(script);
    questions = questions(rows, pages);
    untouched = answersBehind(before);
  }

  public static void main(String[] args) {
    Runs runs = new Runs();
    noRows(new RefusedCallsTest(runs, "no rows", "", 2, 2));
    RefusedCallsTest few = new RefusedCallsTest(runs, "few rows", FEW_ROWS, 5, 4);
    rowsThatAreNotThere(few);
    pagesThatARowHasNot(few);
    windowsThatARowHasNot(few);
    cellsThatAPageHasNot(few);
    sizesAndKinds(few);
    fortyRows(new RefusedCallsTest(runs, "forty rows", FORTY_ROWS + "write 39 0 0 1 = 0\n", 40, 2));
    allFrames(new RefusedCallsTest(runs, "two hundred frames", ALL_FRAMES, 7, 32));
    allRowsAndFrames(new RefusedCallsTest(runs, "forty rows, two hundred frames", ALL_ROWS_AND_FRAMES, 40, 32));
    runs.end();
  }

  private static void noRows(RefusedCallsTest test) {
    test.refused(NONE, "share 0 0 0", "drop 0", "write 0 0 0 1", "write 0 0 0 0", "read 0 0 0", "lay 0 0 0 0 0",
        "size 0 0", "blank 0 0", "own 0 0", "common 0 0 0 0", "holders 0 0", "about 0 0", "size 0 33", "about 0 5");
    test.refused(ARGUMENT, "make -1", "make 33");
  }

  private static void rowsThatAreNotThere(RefusedCallsTest test) {
    String[] calls = {"share # 0 0", "drop #", "write # 0 0 1", "write # 0 0 0", "read # 0 0", "lay # 0 0 0 0",
      "lay 0 0 # 0 0", "lay # 0 0 0 1", "lay 0 0 # 0 1", "size # 1", "size # 33", "blank # 0", "own # 0",
      "common # 0 0 0", "common 0 0 # 0", "holders # 0", "about # 0", "about # 5"};
    test.refusedWith(NONE, LEAST_AND_MOST, calls);
    test.refusedWith(NONE, new String[] {"2", "4", "39", "40"}, calls);
  }

  private static void pagesThatARowHasNot(RefusedCallsTest test) {
    String[] calls = {"write 0 # 0 1", "write 0 # 0 0", "read 0 # 0", "lay 0 # 1 0 1", "lay 1 0 0 # 1", "lay 0 # 0 0 1",
      "blank 0 #", "own 0 #", "common 0 # 1 0", "common 1 0 0 #", "holders 0 #", "share 0 # 1"};
    test.refusedWith(NONE, LEAST_AND_MOST, calls);
    test.refusedWith(NONE, new String[] {"3", "31", "32"}, calls);
    test.refused(NONE, "write 3 0 0 1", "write 3 0 0 0", "read 3 0 0", "lay 3 0 0 0 1", "lay 0 0 3 0 1", "blank 3 0",
        "own 3 0", "common 3 0 0 0", "common 0 0 3 0", "holders 3 0", "share 3 0 1");
  }

  private static void windowsThatARowHasNot(RefusedCallsTest test) {
    test.refusedWith(NONE, LEAST_AND_MOST, "share 0 0 #", "share 0 2 #", "share 0 3 #", "share 0 # 0", "share 0 # #",
        "lay 0 0 1 0 #", "lay 0 2 1 1 #", "lay 0 # 1 0 0", "lay 0 0 1 # 0", "lay 0 # 1 # #");
    test.refused(NONE, "share 0 0 4", "share 0 1 3", "share 0 3 1", "share 0 4 0", "share 0 4 -1", "share 3 0 1",
        "share 3 1 0", "share 0 -1 1", "share 0 -1 2", "share 0 2147483647 -2147483648", "lay 0 0 1 0 3",
        "lay 1 0 0 0 3", "lay 0 2 1 0 2", "lay 0 0 1 1 2", "lay 0 2 0 0 2", "lay 0 0 0 2 2", "lay 0 4 1 0 0",
        "lay 0 0 1 3 0", "lay 0 4 1 0 -1", "lay 0 1 1 2 -1", "lay 0 -1 1 0 2", "lay 0 0 1 -1 2");
  }

  private static void cellsThatAPageHasNot(RefusedCallsTest test) {
    String[] calls = {"write 0 0 # 1", "write 0 0 # 0", "write 0 1 # 1", "write 0 1 # 0", "write 0 2 # 1", "read 0 0 #",
      "read 0 1 #"};
    test.refusedWith(NONE, LEAST_AND_MOST, calls);
    test.refusedWith(NONE, new String[] {"8"}, calls);
  }

  private static void sizesAndKinds(RefusedCallsTest test) {
    test.refusedWith(ARGUMENT, LEAST_AND_MOST, "make #", "size 0 #", "size 3 #", "about 0 #", "about 3 #");
    test.refused(ARGUMENT, "make 33", "size 0 33", "size 3 33", "about 0 5", "about 3 5");
  }

  private static void fortyRows(RefusedCallsTest test) {
    test.refused(STATE, "make 0", "make 1", "make 32", "share 0 0 0", "share 0 0 1", "share 0 1 0", "share 39 0 1");
    test.refusedWith(ARGUMENT, LEAST_AND_MOST, "make #");
    test.refused(ARGUMENT, "make 33", "size 39 33", "about 39 5");
    test.refusedWith(NONE, LEAST_AND_MOST, "share # 0 0", "share 0 # 0", "share 0 0 #");
    test.refused(NONE, "share 40 0 0", "share 0 0 2", "share 0 1 1", "share 0 2 0");
  }

  private static void allFrames(RefusedCallsTest test) {
    test.refused(ARITHMETIC, "write 6 31 0 1", "write 6 9 7 -1", "write 0 0 0 2", "write 6 8 0 2", "write 0 0 0 1",
        "write 6 8 0 1", "write 0 0 0 0", "write 6 8 7 0", "own 6 31", "own 6 9", "own 0 0", "own 6 8");
    test.refused(NONE, "write 6 31 8 1", "write 6 31 -1 1", "write 6 32 0 1", "write 6 -1 0 1", "write 7 0 0 1",
        "write 0 0 8 2", "write 6 8 -1 2", "own 6 32", "own 6 -1", "own 7 0", "own -1 0");
  }

  private static void allRowsAndFrames(RefusedCallsTest test) {
    test.refused(STATE, "make 32", "share 0 0 32", "share 0 32 0");
    test.refused(ARITHMETIC, "write 39 1 7 1", "own 39 1", "own 0 0", "write 6 8 0 0");
    test.refused(NONE, "write 39 2 0 1", "own 39 2", "share 39 0 3", "lay 0 0 39 0 3");
    test.refused(ARGUMENT, "make 33", "size 0 33", "about 0 5");
  }

  private void refusedWith(String exception, String[] numbers, String... patterns) {
    for (String pattern : patterns) {
      for (String number : numbers) {
        refused(exception, pattern.replace("#", number));
      }
    }
  }

  private void refused(String exception, String... refusedCalls) {
    for (String call : refusedCalls) {
      runs.due(name + ": " + call, Runs.answer(objectBehind(before), call), exception.replace(" = ", "").trim());
      List<String> with = new ArrayList<>(before);
      with.add(call);
      List<String> touched = answersBehind(with);
      for (int i = 0; i < touched.size(); i++) {
        runs.due(name + ", behind " + call + ": question " + i, touched.get(i), untouched.get(i));
      }
    }
  }

  private static CloneTree objectBehind(List<String> before) {
    CloneTree x = new CloneTree();
    for (String call : before) {
      Runs.answer(x, call);
    }
    return x;
  }

  /** Each question with its answer; each list of questions is asked of new objects, as many as 512 calls each allow. */
  private List<String> answersBehind(List<String> calls) {
    List<String> answers = new ArrayList<>();
    for (List<String> list : questions) {
      int left = 0;
      CloneTree x = null;
      for (String question : list) {
        if (left == 0) {
          x = objectBehind(calls);
          left = MOST_CALLS - calls.size();
        }
        answers.add(question + ": " + Runs.answer(x, question));
        left--;
      }
    }
    return answers;
  }

  private static List<List<String>> questions(int rows, int pages) {
    List<List<String>> all = new ArrayList<>();
    all.add(questionsOfRows());
    all.add(questionsOfPages(rows, pages));
    // These change the object: what is free, and what is in common, decides their answers.
    all.add(List.of("make 0", "make 0", "share 0 0 0", "count 0"));
    all.add(List.of("write 0 0 0 77", "own 0 1", "own 6 8", "count 2", "merge", "sweep", "count 2"));
    all.add(List.of("size 0 32", "about 0 1", "about 0 2", "about 0 4", "size 1 0", "count 2"));
    all.add(List.of("lay 0 0 1 0 2", "lay 0 0 6 8 1", "drop 0", "drop 1", "drop 39", "count 2", "make 5"));
    return all;
  }

  private static List<String> questionsOfRows() {
    List<String> all = new ArrayList<>(List.of("count 0", "count 1", "count 2", "count 3"));
    for (int r = 0; r < 40; r++) {
      for (int what = 0; what < 5; what++) {
        all.add("about " + r + " " + what);
      }
    }
    return all;
  }

  private static List<String> questionsOfPages(int rows, int pages) {
    List<String> all = new ArrayList<>();
    for (int r = 0; r < rows; r++) {
      for (int p = 0; p < pages; p++) {
        all.add("holders " + r + " " + p);
        all.add("common " + r + " " + p + " 0 0");
        // Cells 0 and 7 of the many pages of large states, all cells of the few of small ones.
        for (int c = 0; c < 8; c += pages > 4 ? 7 : 1) {
          all.add("read " + r + " " + p + " " + c);
        }
      }
    }
    return all;
  }

  private static List<String> calls(String script) {
    List<String> calls = new ArrayList<>();
    for (String line : script.split("\n")) {
      if (!line.isBlank()) {
        calls.add(line.split(" = ")[0]);
      }
    }
    return calls;
  }
}
