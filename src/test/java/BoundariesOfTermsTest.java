/**
 * The sentences under "Terms" and "The public face" that name a boundary case, each with a test of its own that bears
 * its words.
 */
public final class BoundariesOfTermsTest implements Scripts {
  private static final Runs runs = new Runs();

  public static void main(String[] args) {
    rowsHaveNumbers0To39();
    noneAtFirst();
    of0To32Pages();
    of8Cells();
    cellsAreInts();
    aPageIsBlank();
    severalPagesHaveAFrameInCommon();
    aFrameIsThereAsLongAsSomePageHasIt();
    atMost200Frames();
    writingABlankPageWith0();
    writingABlankPage();
    writingAFrameInCommon();
    writingAFrameAlone();
    aFrameOf0StaysAFrame();
    aRowThatIsNotThere();
    aPageThatItHasNot();
    aCellThatItHasNot();
    thereWouldBeMoreThan200Frames();
    theFirstBehindThrows();
    fiveHundredAndTwelveCalls();
    runs.end();
  }

  private static void rowsHaveNumbers0To39() {
    runs.play("ROWS have numbers 0 .. 39", FORTY_ROWS, "count 0 = 40\nwrite 0 0 0 5 = 0\nwrite 39 0 7 6 = 0",
        "read 0 0 0 = 5\nread 39 0 7 = 6\nabout 0 4 = 5\nabout 39 4 = 6\ndrop 39 = 1\ndrop 0 = 1\ncount 0 = 38",
        "about 39 0" + NONE, "about 0 0" + NONE, "about -1 0" + NONE, "about 40 0" + NONE, "make 4 = 0\nmake 4 = 39");
  }

  private static void noneAtFirst() {
    runs.play("each there or not (none at first)", Runs.lines(-1, 41, r -> "size " + r + " 0" + NONE), "count 0 = 0");
    runs.play("each there or not", "make 1 = 0\nmake 1 = 1\nmake 1 = 2\ndrop 1 = 0",
        "size 0 1 = 1\nsize 1 1" + NONE, "size 2 1 = 1\nsize 3 1" + NONE);
  }

  private static void of0To32Pages() {
    runs.play("of 0 to 32 PAGES", "make 0 = 0\nmake 32 = 1\nmake 1 = 2\nread 0 0 0" + NONE, "read 1 0 0 = 0",
        "read 1 31 0 = 0\nread 1 32 0" + NONE, "read 2 0 0 = 0\nread 2 1 0" + NONE, "about 0 0 = 0\nabout 1 0 = 32",
        "count 1 = 33\nmake 33" + ARGUMENT, "size 1 33" + ARGUMENT, "make -1" + ARGUMENT, "size 0 -1" + ARGUMENT);
  }

  private static void of8Cells() {
    runs.play("of 8 CELLS", "make 2 = 0", Runs.lines(0, 8, c -> "write 0 0 " + c + " " + (c + 1) + " = 0"),
        Runs.lines(0, 8, c -> "read 0 0 " + c + " = " + (c + 1)), Runs.lines(0, 8, c -> "read 0 1 " + c + " = 0"),
        "about 0 4 = 36\nread 0 0 8" + NONE, "read 0 0 -1" + NONE, "write 0 0 8 1" + NONE, "write 0 0 -1 1" + NONE);
  }

  private static void cellsAreInts() {
    runs.play("CELLS (ints)", "make 1 = 0\nwrite 0 0 0 2147483647 = 0\nwrite 0 0 7 -2147483648 = 0",
        "read 0 0 0 = 2147483647\nread 0 0 7 = -2147483648\nwrite 0 0 0 -1 = 2147483647\nwrite 0 0 7 1 = -2147483648",
        "read 0 0 0 = -1\nread 0 0 7 = 1");
  }

  private static void aPageIsBlank() {
    runs.play("A PAGE is BLANK (all CELLS 0)", "make 32 = 0", Runs.lines(0, 8, c -> "read 0 0 " + c + " = 0"),
        Runs.lines(0, 8, c -> "read 0 31 " + c + " = 0"), "holders 0 0 = 0\nholders 0 31 = 0\nabout 0 4 = 0",
        "count 2 = 0");
  }

  private static void severalPagesHaveAFrameInCommon() {
    runs.play("which several PAGES, of several ROWS, can have in common: all 1280", "make 32 = 0\nwrite 0 0 7 3 = 0",
        "lay 0 1 0 0 1 = 0\nlay 0 2 0 0 2 = 0\nlay 0 4 0 0 4 = 0\nlay 0 8 0 0 8 = 0", "lay 0 16 0 0 16 = 0",
        Runs.lines(1, 40, r -> "share 0 0 32 = " + r), "count 1 = 1280\ncount 2 = 1\ncount 3 = 1",
        "holders 0 0 = 1280\nholders 39 31 = 1280\ncommon 0 0 39 31 = true\nread 39 31 7 = 3\nwrite 39 31 7 4 = 3",
        "holders 39 31 = 1\nholders 0 0 = 1279\nread 39 30 7 = 3\nabout 39 2 = 2\nabout 39 4 = 97");
  }

  private static void aFrameIsThereAsLongAsSomePageHasIt() {
    String twoHolders = "make 2 = 0\nwrite 0 1 0 5 = 0\nshare 0 0 2 = 1\n";
    String there = "count 2 = 1\nread 1 1 0 = 5\nholders 1 1 = 1";
    runs.play("a FRAME is there as long as some PAGE has it: drop", twoHolders, "drop 0 = 0", there, "drop 1 = 1",
        "count 2 = 0");
    runs.play("a FRAME is there as long as some PAGE has it: lay", twoHolders, "lay 0 1 0 0 1 = 0", there,
        "lay 1 1 1 0 1 = 1\ncount 2 = 0");
    runs.play("a FRAME is there as long as some PAGE has it: size", twoHolders, "size 0 1 = 2", there,
        "size 1 1 = 2\ncount 2 = 0");
    runs.play("a FRAME is there as long as some PAGE has it: blank", twoHolders, "blank 0 1 = true", there,
        "blank 1 1 = true\ncount 2 = 0");
    runs.play("a FRAME is there as long as some PAGE has it: write", twoHolders, "write 0 1 0 6 = 5\ncount 2 = 2",
        "read 1 1 0 = 5\nholders 1 1 = 1\nwrite 1 1 0 7 = 5\ncount 2 = 2");
    runs.play("a FRAME is there as long as some PAGE has it: own", twoHolders, "own 0 1 = true\ncount 2 = 2",
        "read 1 1 0 = 5\nholders 1 1 = 1\nown 1 1 = false\ncount 2 = 2");
  }

  private static void atMost200Frames() {
    runs.play("At most 200 FRAMES: the 200th is given, no 201st", "make 32 = 0",
        Runs.lines(1, 7, i -> "make 32 = " + i), Runs.lines(0, 199, i -> "own " + i / 32 + " " + i % 32 + " = true"),
        "count 2 = 199\nwrite 6 7 0 1 = 0\ncount 2 = 200", "write 6 8 0 1" + ARITHMETIC, "own 6 8" + ARITHMETIC,
        "count 2 = 200");
    runs.play("At most 200 FRAMES: pages of them are not bounded so", TWO_HUNDRED_FRAMES,
        Runs.lines(7, 40, r -> "share 0 0 32 = " + r), "count 1 = 1280\ncount 2 = 200\nholders 0 0 = 34",
        "lay 6 8 5 0 24 = 0");
  }

  private static void writingABlankPageWith0() {
    runs.play("if it is BLANK and the number is 0, nothing", "make 2 = 0",
        Runs.lines(0, 8, c -> "write 0 1 " + c + " 0 = 0"), "holders 0 1 = 0\nabout 0 1 = 2\ncount 2 = 0",
        "blank 0 1 = false");
    runs.play("if it is BLANK and the number is 0, nothing: with 200 FRAMES too", TWO_HUNDRED_FRAMES,
        "write 6 31 7 0 = 0\nholders 6 31 = 0\ncount 2 = 200");
  }

  private static void writingABlankPage() {
    runs.play("if it is BLANK it has a new FRAME first, with the same CELLS", "make 2 = 0\nwrite 0 1 3 -1 = 0",
        Runs.lines(0, 8, c -> "read 0 1 " + c + " = " + (c == 3 ? -1 : 0)), "holders 0 1 = 1\nholders 0 0 = 0",
        "count 2 = 1");
    runs.play("if it is BLANK it has a new FRAME: also one that was shared", "make 1 = 0\nshare 0 0 1 = 1",
        "write 0 0 0 4 = 0", "holders 0 0 = 1\nholders 1 0 = 0\nread 1 0 0 = 0");
    runs.play("if it is BLANK it has a new FRAME: none of what a FRAME that went had", "make 1 = 0",
        Runs.lines(0, 8, c -> "write 0 0 " + c + " 9 = 0"), "drop 0 = 1\nmake 1 = 0\nwrite 0 0 7 1 = 0\nabout 0 4 = 1");
  }

  private static void writingAFrameInCommon() {
    String eightCells = Runs.lines(0, 8, c -> "write 0 0 " + c + " " + (c + 1) + " = 0");
    String copied = Runs.lines(0, 8, c -> "read 1 0 " + c + " = " + (c == 7 ? 80 : c + 1));
    runs.play("or has its FRAME in common with another one: of another ROW", "make 1 = 0", eightCells,
        "share 0 0 1 = 1", "write 1 0 7 80 = 8", copied, "read 0 0 7 = 8\nholders 0 0 = 1\nholders 1 0 = 1",
        "count 2 = 2");
    runs.play("or has its FRAME in common with another one: of the same ROW", "make 2 = 0", eightCells,
        "lay 0 1 0 0 1 = 0", "write 0 1 7 80 = 8\nread 0 0 7 = 8\nread 0 1 7 = 80\nread 0 1 0 = 1\nholders 0 0 = 1",
        "about 0 2 = 2");
    runs.play("or has its FRAME in common with another one: 0, or what it was", "make 1 = 0", eightCells,
        "share 0 0 1 = 1", "share 0 0 1 = 2\nwrite 1 0 0 1 = 1\nholders 0 0 = 2\nwrite 2 0 0 0 = 1\nholders 0 0 = 1",
        "read 0 0 0 = 1\ncount 2 = 3");
  }

  private static void writingAFrameAlone() {
    runs.play("else its FRAME is written", "make 1 = 0\nwrite 0 0 0 1 = 0\nwrite 0 0 0 2 = 1\nwrite 0 0 7 3 = 0",
        "count 2 = 1\nread 0 0 0 = 2\nread 0 0 7 = 3");
    runs.play("else its FRAME is written: with 200 FRAMES too", TWO_HUNDRED_FRAMES,
        "write 0 0 0 -1 = 1\nwrite 6 7 7 -2 = 0\nread 0 0 0 = -1\nread 6 7 7 = -2\nread 6 7 0 = 200\ncount 2 = 200");
    runs.play("else its FRAME is written: the last one that has it", "make 1 = 0\nwrite 0 0 0 1 = 0\nshare 0 0 1 = 1",
        "drop 0 = 0\nwrite 1 0 0 2 = 1\ncount 2 = 1\nholders 1 0 = 1");
  }

  private static void aFrameOf0StaysAFrame() {
    runs.play("A FRAME that is all 0 stays a FRAME", "make 1 = 0\nwrite 0 0 7 5 = 0\nwrite 0 0 7 0 = 5",
        "holders 0 0 = 1", "about 0 1 = 0\nabout 0 2 = 1\ncount 2 = 1\nwrite 0 0 0 0 = 0\nholders 0 0 = 1\nmerge = 0",
        "holders 0 0 = 1", "share 0 0 1 = 1\ncommon 0 0 1 0 = true\nwrite 1 0 0 0 = 0\ncommon 0 0 1 0 = false",
        "count 2 = 2");
  }

  private static void aRowThatIsNotThere() {
    String[] calls = {"share # 0 0", "drop #", "write # 0 0 1", "read # 0 0", "lay # 0 0 0 0", "lay 0 0 # 0 0",
      "size # 1", "blank # 0", "own # 0", "common # 0 0 0", "common 0 0 # 0", "holders # 0", "about # 0"};
    String[] rows = {"-2147483648", "-1", "1", "39", "40", "2147483647"};
    runs.play("NoSuchElementException: a ROW that is not there", "make 2 = 0\nmake 2 = 1\ndrop 1 = 0",
        refusals(calls, rows), "count 0 = 1");
  }

  private static void aPageThatItHasNot() {
    String[] calls = {"share 0 # 1", "write 0 # 0 1", "read 0 # 0", "lay 0 # 1 0 1", "lay 1 0 0 # 1", "blank 0 #",
      "own 0 #", "common 0 # 1 0", "common 1 0 0 #", "holders 0 #"};
    String[] pages = {"-2147483648", "-1", "2", "3", "32", "2147483647"};
    runs.play("NoSuchElementException: a PAGE that it has not", "make 2 = 0\nmake 32 = 1", refusals(calls, pages),
        "count 2 = 0");
    runs.play("NoSuchElementException: a PAGE that it has no more", "make 4 = 0\nmake 32 = 1\nwrite 0 2 0 1 = 0",
        "size 0 2 = 4", refusals(calls, pages), "count 2 = 0");
    runs.play("NoSuchElementException: a PAGE of a ROW of none", "make 0 = 0\nmake 32 = 1",
        refusals(calls, new String[] {"-1", "0", "1"}), "count 2 = 0");
  }

  private static void aCellThatItHasNot() {
    String[] calls = {"write 0 0 # 1", "write 0 0 # 0", "read 0 0 #", "write 0 1 # 1", "write 0 1 # 0", "read 0 1 #"};
    String[] cells = {"-2147483648", "-1", "8", "9", "2147483647"};
    runs.play("NoSuchElementException: a CELL that it has not", "make 2 = 0\nwrite 0 0 0 1 = 0", refusals(calls, cells),
        "count 2 = 1\nabout 0 4 = 1");
  }

  private static void thereWouldBeMoreThan200Frames() {
    String unchanged =
        "count 2 = 200\nholders 6 9 = 0\nread 6 9 7 = 0\nholders 0 0 = 2\ncommon 0 0 6 8 = true\nread 0 0 0 = 1";
    runs.play("ArithmeticException: there would be more than 200 FRAMES; then nothing changes", TWO_HUNDRED_FRAMES,
        "lay 6 8 0 0 1 = 0", "write 6 9 7 1" + ARITHMETIC, unchanged, "own 6 9" + ARITHMETIC, unchanged,
        "write 0 0 0 2" + ARITHMETIC, unchanged, "write 6 8 0 2" + ARITHMETIC, unchanged, "own 0 0" + ARITHMETIC,
        unchanged, "own 6 8" + ARITHMETIC, unchanged);
    runs.play("more than 200 FRAMES: one that goes makes room for one", TWO_HUNDRED_FRAMES, "blank 0 0 = true",
        "own 6 31 = true", "own 6 30" + ARITHMETIC, "size 1 31 = 32\nwrite 6 30 0 1 = 0\nwrite 6 29 0 1" + ARITHMETIC,
        "write 2 0 0 0 = 65\nsweep = 2\nown 6 31 = true\nown 6 29 = true\nown 6 28" + ARITHMETIC, "count 2 = 200");
  }

  private static void theFirstBehindThrows() {
    runs.play("the one that stands first behind throws: make, share", FORTY_ROWS, "make 33" + ARGUMENT,
        "make -1" + ARGUMENT, "make 32" + STATE, "share 40 0 0" + NONE, "share 0 0 2" + NONE, "share 0 2 0" + NONE,
        "share 0 -1 1" + NONE, "share 0 0 -1" + NONE, "share 0 0 1" + STATE);
    runs.play("the one that stands first behind throws: size, about", "make 1 = 0\nsize 1 33" + NONE,
        "size 0 33" + ARGUMENT, "size 40 -1" + NONE, "size 0 -1" + ARGUMENT, "about 1 5" + NONE,
        "about 0 5" + ARGUMENT, "about -1 -1" + NONE, "about 0 -1" + ARGUMENT);
    runs.play("the one that stands first behind throws: write, own", TWO_HUNDRED_FRAMES, "write 7 0 0 1" + NONE,
        "write 6 32 0 1" + NONE, "write 6 31 8 1" + NONE, "write 6 31 7 1" + ARITHMETIC, "own 7 0" + NONE,
        "own 6 32" + NONE, "own 6 31" + ARITHMETIC);
  }

  private static void fiveHundredAndTwelveCalls() {
    runs.play("for at most 512 calls", "make 1 = 0", Runs.lines(0, 510, i -> "write 0 0 7 " + (i + 1) + " = " + i),
        "read 0 0 7 = 510");
    runs.play("for at most 512 calls: new FRAMES all the time", "make 1 = 0",
        Runs.lines(0, 255, i -> "own 0 0 = true\nblank 0 0 = true"), "count 2 = 0");
    runs.play("for at most 512 calls: new ROWS all the time", Runs.lines(0, 255, i -> "make 32 = 0\ndrop 0 = 0"),
        "count 0 = 0");
  }

  private static String refusals(String[] calls, String[] numbers) {
    StringBuilder lines = new StringBuilder();
    for (String call : calls) {
      for (String number : numbers) {
        lines.append(call.replace("#", number)).append(NONE);
      }
    }
    return lines.toString();
  }
}
