/** The sentences of the promises that name a boundary case, each with a test of its own that bears its words. */
public final class BoundariesOfPromisesTest implements Scripts {
  private static final String LEAST = " -2147483648";
  private static final String MOST = " 2147483647";

  // Row 0 of five pages: a frame each, with its page's number + 1 in cell 0, but for the last, which is blank.
  private static final String FIVE_PAGES =
      "make 5 = 0\n" + Runs.lines(0, 4, p -> "write 0 " + p + " 0 " + (p + 1) + " = 0");

  private static final Runs runs = new Runs();

  public static void main(String[] args) {
    promise1NewObject();
    promise2Make();
    promise3Share();
    promise3ShareWrong();
    promise4Drop();
    promise5Write();
    promise6Read();
    promise7Lay();
    promise7LayWhatGoes();
    promise7LayWrong();
    promise8Size();
    promise9Blank();
    promise10Own();
    promise11Sweep();
    promise12Merge();
    promise13Common();
    promise14Holders();
    promise15About();
    promise15AboutCells();
    promise16Count();
    runs.end();
  }

  private static void promise1NewObject() {
    runs.play("1 No ROWS", Runs.lines(-1, 5, what -> "count " + what + " = " + (what < 0 || what > 3 ? -1 : 0)),
        Runs.lines(0, 40, r -> "drop " + r + NONE), "sweep = 0\nmerge = 0\nmake 0 = 0");
    // The exceptions of two kinds, and that a refused call changes nothing, are looked at call by call in
    // BoundariesOfTermsTest and RefusedCallsTest.
    runs.play("1 A call that throws changes nothing: nor does one that is refused again and again", "make 2 = 0",
        "write 0 1 0 5 = 0",
        Runs.lines(0, 60, i -> "make 33" + ARGUMENT + "share 0 1 2" + NONE + "write 0 1 8 1" + NONE
            + "lay 0 0 0 1 2" + NONE + "size 0 33" + ARGUMENT + "about 0 5" + ARGUMENT
            + "own 0 2" + NONE + "blank 0 2" + NONE),
        "count 0 = 1\ncount 1 = 2\ncount 2 = 1\nread 0 1 0 = 5\nholders 0 1 = 1\nmake 0 = 1");
  }

  private static void promise2Make() {
    runs.play("2 so many BLANK PAGES: 0 and 32", "make 0 = 0\nmake 32 = 1\nabout 0 0 = 0\nabout 0 1 = 0",
        "about 1 0 = 32\nabout 1 1 = 32");
    runs.play("2 BLANK PAGES: under a number that was there before", "make 32 = 0",
        Runs.lines(0, 32, p -> "write 0 " + p + " 0 9 = 0"), "drop 0 = 32\nmake 32 = 0\nabout 0 1 = 32\nabout 0 4 = 0",
        "count 2 = 0");
    runs.play("2 the least number that is free", FORTY_ROWS, "drop 38 = 0\ndrop 1 = 0\ndrop 0 = 0\ndrop 39 = 0",
        "make 1 = 0", "make 1 = 1\nmake 1 = 38\nmake 1 = 39\nmake 1" + STATE);
    runs.play("2 IllegalArgumentException: not 0 .. 32", "make -1" + ARGUMENT, "make 33" + ARGUMENT,
        "make" + LEAST + ARGUMENT, "make" + MOST + ARGUMENT, "count 0 = 0\nmake 0 = 0\nmake 32 = 1");
    runs.play("2 IllegalStateException: 40 are there", Runs.lines(0, 39, r -> "make 0 = " + r), "make 0 = 39",
        "make 0" + STATE, "make 32" + STATE, "count 0 = 40\ndrop 20 = 0\nmake 32 = 20\nmake 0" + STATE);
    runs.play("2 so for all that make one: share", Runs.lines(0, 39, r -> "make 1 = " + r), "share 0 0 1 = 39",
        "share 0 0 1" + STATE, "share 0 0 0" + STATE, "count 0 = 40\ndrop 20 = 0\nshare 0 0 1 = 20",
        "share 0 0 1" + STATE);
  }

  private static void promise3Share() {
    runs.play("3 n PAGES: none", FIVE_PAGES, "share 0 0 0 = 1\nshare 0 3 0 = 2\nshare 0 5 0 = 3\nabout 1 0 = 0",
        "about 2 0 = 0", "about 3 0 = 0\nread 1 0 0" + NONE, "share 1 0 0 = 4\nabout 4 0 = 0\nholders 0 0 = 1",
        "holders 0 3 = 1");
    runs.play("3 n PAGES: all", "make 32 = 0\nwrite 0 0 0 1 = 0\nwrite 0 31 7 2 = 0\nshare 0 0 32 = 1\nabout 1 0 = 32",
        "about 1 1 = 30\ncommon 0 0 1 0 = true\ncommon 0 31 1 31 = true\nread 1 31 7 = 2");
    runs.play("3 from one on: the first, the last", FIVE_PAGES, "share 0 0 1 = 1\nread 1 0 0 = 1\nshare 0 4 1 = 2",
        "holders 2 0 = 0", "share 0 3 2 = 3\nread 3 0 0 = 4\nread 3 1 0 = 0\nread 3 2 0" + NONE);
    runs.play("3 in common with it (BLANK ones are BLANK)", "make 1 = 0\nshare 0 0 1 = 1\ncommon 0 0 1 0 = false",
        "holders 1 0 = 0", "count 2 = 0\nwrite 0 0 0 1 = 0\nread 1 0 0 = 0\nown 1 0 = true\nholders 0 0 = 1");
    runs.play("3 in common: with 200 FRAMES too", TWO_HUNDRED_FRAMES, "share 0 0 32 = 7\ncount 2 = 200\ncount 3 = 32",
        "holders 7 31 = 2");
    runs.play("3 its number: the least that is free", "make 1 = 0\nmake 1 = 1\nmake 1 = 2\ndrop 1 = 0",
        "share 2 0 1 = 1\nshare 2 0 1 = 3");
    runs.play("3 a ROW of its own", FIVE_PAGES, "share 0 0 2 = 1\nsize 1 32 = 2\nabout 1 1 = 30\nabout 0 0 = 5",
        "drop 0 = 2\nread 1 1 0 = 2");
  }

  private static void promise3ShareWrong() {
    runs.play("3 NoSuchElementException: a PAGE that it has not", FIVE_PAGES, "share 0 5 1" + NONE,
        "share 0 4 2" + NONE, "share 0 0 6" + NONE, "share 0 6 0" + NONE, "share 0 -1 1" + NONE, "share 0 -1 0" + NONE,
        "share 0 0 -1" + NONE, "share 0 5 -1" + NONE, "share 0 6 -1" + NONE, "share 0 -5 5" + NONE, "count 0 = 1",
        "holders 0 0 = 1");
    runs.play("3 NoSuchElementException: numbers that wrap around when added", FIVE_PAGES, "share 0 1" + MOST + NONE,
        "share 0" + MOST + " 1" + NONE, "share 0" + MOST + MOST + NONE, "share 0" + LEAST + LEAST + NONE,
        "share 0 0" + LEAST + NONE, "share 0" + LEAST + " 0" + NONE, "share 0" + MOST + LEAST + NONE,
        "share 0" + LEAST + MOST + NONE, "count 0 = 1");
  }

  private static void promise4Drop() {
    runs.play("4 The ROW is there no more", FORTY_ROWS, "drop 0 = 0\ndrop 39 = 0\ndrop 0" + NONE, "drop 39" + NONE,
        "read 0 0 0" + NONE, "about 39 0" + NONE, "count 0 = 38\ncount 1 = 38");
    runs.play("4 how many FRAMES went: none, of no PAGES or of BLANK ones", "make 0 = 0\nmake 32 = 1\ndrop 0 = 0",
        "drop 1 = 0");
    runs.play("4 how many FRAMES went: all 32", TWO_HUNDRED_FRAMES, "drop 0 = 32\ndrop 6 = 8\ncount 2 = 160");
    runs.play("4 how many FRAMES went: none that another ROW has", FIVE_PAGES, "share 0 0 3 = 1\ndrop 0 = 1",
        "count 2 = 3\ndrop 1 = 3\ncount 2 = 0");
    runs.play("4 how many FRAMES went: one that two of its PAGES have goes once", "make 3 = 0\nwrite 0 0 0 1 = 0",
        "lay 0 1 0 0 1 = 0", "lay 0 2 0 0 1 = 0\ndrop 0 = 1\ncount 2 = 0");
    runs.play("4 how many FRAMES went: one that is all 0", "make 1 = 0\nown 0 0 = true\ndrop 0 = 1");
    runs.play("4 NoSuchElementException", "make 1 = 0\ndrop 1" + NONE, "drop -1" + NONE, "drop 39" + NONE,
        "drop 40" + NONE, "drop" + LEAST + NONE, "drop" + MOST + NONE, "count 0 = 1");
  }

  private static void promise5Write() {
    runs.play("5 what it was", "make 32 = 0\nwrite 0 31 7" + MOST + " = 0\nwrite 0 31 7" + LEAST + " =" + MOST,
        "write 0 31 7 0 =" + LEAST, "write 0 31 7 0 = 0\nwrite 0 0 0 0 = 0\nwrite 0 0 0 1 = 0\nwrite 0 0 0 1 = 1");
    runs.play("5 what it was: in the FRAME that is left", "make 1 = 0\nwrite 0 0 7 3 = 0\nshare 0 0 1 = 1",
        "write 1 0 7 4 = 3", "write 0 0 7 5 = 3\nread 1 0 7 = 4");
    runs.play("5 ArithmeticException: a refused one is told no matter what it was", TWO_HUNDRED_FRAMES,
        "share 0 0 1 = 7", "write 7 0 0 1" + ARITHMETIC, "write 7 0 0 0" + ARITHMETIC, "write 7 0 7 0" + ARITHMETIC,
        "drop 0 = 31\nwrite 7 0 0 0 = 1");
  }

  private static void promise6Read() {
    runs.play("6 CELL c of PAGE p: first and last", "make 32 = 0\nwrite 0 0 0 1 = 0\nwrite 0 0 7 2 = 0",
        "write 0 31 0 3 = 0\nwrite 0 31 7 4 = 0", "read 0 0 0 = 1\nread 0 0 7 = 2\nread 0 31 0 = 3\nread 0 31 7 = 4",
        "read 0 0 1 = 0\nread 0 30 7 = 0\nread 0 1 0 = 0");
    runs.play("6 reading makes nothing", "make 1 = 0\nread 0 0 0 = 0\nholders 0 0 = 0\ncount 2 = 0");
    runs.play("6 NoSuchElementException", "make 32 = 0\nread 0 31 8" + NONE, "read 0 32 7" + NONE,
        "read 1 31 7" + NONE, "read 0 0 -1" + NONE, "read 0 -1 0" + NONE, "read -1 0 0" + NONE,
        "read 0 0" + MOST + NONE, "read 0 0" + LEAST + NONE);
  }

  private static void promise7Lay() {
    runs.play("7 n PAGES: none", FIVE_PAGES, "make 0 = 1\nlay 0 0 0 0 0 = 0\nlay 0 5 0 0 0 = 0\nlay 0 0 0 5 0 = 0",
        "lay 1 0 1 0 0 = 0", "lay 1 0 0 5 0 = 0\nlay 0 5 1 0 0 = 0\ncount 2 = 4\nabout 1 0 = 0\nabout 0 0 = 5");
    runs.play("7 n PAGES: all 32", TWO_HUNDRED_FRAMES, "lay 0 0 5 0 32 = 32\ncommon 0 0 5 0 = true",
        "common 0 31 5 31 = true", "read 0 31 0 = 192\ncount 2 = 168\ncount 3 = 32");
    runs.play("7 from q on, from p on: the last", FIVE_PAGES, "make 5 = 1\nlay 1 4 0 3 1 = 0\nread 1 4 0 = 4",
        "lay 1 3 0 3 2 = 0", "read 1 3 0 = 4\nholders 1 4 = 0\nholders 0 3 = 2");
    runs.play("7 all at once: onward", FIVE_PAGES, "lay 0 1 0 0 4 = 0",
        Runs.lines(1, 5, p -> "read 0 " + p + " 0 = " + p), "read 0 0 0 = 1\nholders 0 0 = 2\ncount 2 = 4");
    runs.play("7 all at once: back", FIVE_PAGES, "lay 0 0 0 1 4 = 1",
        Runs.lines(0, 3, p -> "read 0 " + p + " 0 = " + (p + 2)), "holders 0 3 = 0\nholders 0 4 = 0\nholders 0 0 = 1",
        "count 2 = 3");
    runs.play("7 all at once: onto the very same PAGES", FIVE_PAGES, "lay 0 0 0 0 5 = 0\nlay 0 3 0 3 1 = 0",
        "lay 0 4 0 4 1 = 0\ncount 2 = 4", Runs.lines(0, 4, p -> "holders 0 " + p + " = 1"),
        Runs.lines(0, 4, p -> "read 0 " + p + " 0 = " + (p + 1)));
    runs.play("7 in common with those", FIVE_PAGES, "make 2 = 1\nlay 1 0 0 3 2 = 0\ncommon 1 0 0 3 = true",
        "common 1 1 0 4 = false", "holders 1 1 = 0\nwrite 0 4 0 5 = 0\nread 1 1 0 = 0\nwrite 1 0 0 9 = 4",
        "read 0 3 0 = 4");
  }

  private static void promise7LayWhatGoes() {
    runs.play("7 how many FRAMES went: under BLANK PAGES", FIVE_PAGES, "make 4 = 1\nlay 0 0 1 0 4 = 4\ncount 2 = 0",
        "lay 0 0 1 0 4 = 0");
    runs.play("7 how many FRAMES went: none that another PAGE has", FIVE_PAGES, "share 0 0 1 = 1\nlay 0 0 0 4 1 = 0",
        "read 1 0 0 = 1\nlay 1 0 0 4 1 = 1");
    runs.play("7 how many FRAMES went: one that two PAGES had goes once", "make 4 = 0\nwrite 0 0 0 1 = 0",
        "lay 0 1 0 0 1 = 0", "lay 0 0 0 2 1 = 0\nlay 0 1 0 2 1 = 1\nwrite 0 0 0 1 = 0\nlay 0 1 0 0 1 = 0",
        "lay 0 0 0 2 2 = 1");
    runs.play("7 how many FRAMES went: one that only changes its place stays", "make 3 = 0\nwrite 0 2 0 1 = 0",
        "lay 0 1 0 2 1 = 0", "blank 0 2 = true\nlay 0 0 0 1 2 = 0\nread 0 0 0 = 1\nholders 0 0 = 1\nholders 0 1 = 0",
        "count 2 = 1");
    runs.play("7 how many FRAMES went: laid again over what it was laid over", FIVE_PAGES, "share 0 0 4 = 1",
        "lay 1 0 0 0 4 = 0\ncount 2 = 4\nholders 0 0 = 2");
  }

  private static void promise7LayWrong() {
    String rows = FIVE_PAGES + "make 2 = 1\nwrite 1 0 0 9 = 0\n";
    String unchanged = "count 2 = 5\nread 0 0 0 = 1\nread 1 0 0 = 9\nholders 0 0 = 1\nholders 1 0 = 1";
    runs.play("7 NoSuchElementException: a PAGE that either ROW has not", rows, "lay 0 0 1 0 3" + NONE,
        "lay 1 0 0 0 3" + NONE, "lay 0 4 1 0 2" + NONE, "lay 0 0 1 1 2" + NONE, "lay 0 5 1 0 1" + NONE,
        "lay 0 0 1 2 1" + NONE, "lay 0 6 1 0 0" + NONE, "lay 0 0 1 3 0" + NONE, "lay 0 -1 1 0 1" + NONE,
        "lay 0 0 1 -1 1" + NONE, "lay 0 -1 1 0 0" + NONE, "lay 0 0 1 -1 0" + NONE, "lay 0 0 1 0 -1" + NONE,
        "lay 0 5 1 2 -1" + NONE, unchanged);
    runs.play("7 NoSuchElementException: numbers that wrap around when added", rows, "lay 0" + MOST + " 1 0 1" + NONE,
        "lay 0 0 1" + MOST + " 1" + NONE, "lay 0 1 1 1" + MOST + NONE, "lay 0" + MOST + " 1 0" + MOST + NONE,
        "lay 0" + MOST + " 1" + MOST + MOST + NONE, "lay 0" + LEAST + " 1" + LEAST + LEAST + NONE,
        "lay 0 0 1 0" + LEAST + NONE, "lay 0" + LEAST + " 1 0 0" + NONE, "lay 0 0 1" + LEAST + " 0" + NONE, unchanged);
  }

  private static void promise8Size() {
    runs.play("8 The ROW has n PAGES: 0 and 32", "make 5 = 0\nsize 0 0 = 5\nread 0 0 0" + NONE, "about 0 0 = 0",
        "size 0 32 = 0\nread 0 31 7 = 0", "read 0 32 0" + NONE, "about 0 0 = 32\ncount 1 = 32");
    runs.play("8 those that come are BLANK: where others went before", FIVE_PAGES, "size 0 2 = 5\nsize 0 5 = 2",
        "about 0 1 = 3\nread 0 2 0 = 0\nread 0 3 0 = 0", "read 0 1 0 = 2\ncount 2 = 2\nholders 0 2 = 0\nsize 0 0 = 5",
        "size 0 32 = 0\nabout 0 1 = 32\ncount 2 = 0");
    runs.play("8 those that come are BLANK: none come, none go", FIVE_PAGES, "size 0 5 = 5\ncount 2 = 4",
        "about 0 1 = 1\nholders 0 3 = 1");
    runs.play("8 how many it had", "make 32 = 0\nsize 0 31 = 32\nsize 0 32 = 31\nsize 0 1 = 32\nsize 0 0 = 1",
        "size 0 0 = 0");
    runs.play("8 with 200 FRAMES it makes no FRAME", TWO_HUNDRED_FRAMES, "make 0 = 7\nsize 7 32 = 0\ncount 2 = 200",
        "size 0 31 = 32\ncount 2 = 199\nsize 0 32 = 31\ncount 2 = 199");
    runs.play("8 IllegalArgumentException: not 0 .. 32", FIVE_PAGES, "size 0 -1" + ARGUMENT, "size 0 33" + ARGUMENT,
        "size 0" + LEAST + ARGUMENT, "size 0" + MOST + ARGUMENT, "about 0 0 = 5\ncount 2 = 4");
  }

  private static void promise9Blank() {
    runs.play("9 PAGE p is BLANK: the first, the last", "make 32 = 0\nwrite 0 0 0 1 = 0\nwrite 0 31 7 1 = 0",
        "blank 0 0 = true\nblank 0 31 = true", "about 0 1 = 32\nread 0 31 7 = 0\ncount 2 = 0");
    runs.play("9 whether it had a FRAME: one that is all 0", "make 2 = 0\nown 0 0 = true\nblank 0 0 = true",
        "blank 0 0 = false\nblank 0 1 = false");
    runs.play("9 whether it had a FRAME: one in common", FIVE_PAGES, "share 0 0 1 = 1\nblank 1 0 = true",
        "read 0 0 0 = 1\nholders 0 0 = 1\nblank 1 0 = false");
    runs.play("9 NoSuchElementException", FIVE_PAGES, "blank 0 5" + NONE, "blank 0 -1" + NONE, "blank 1 0" + NONE,
        "blank 0" + MOST + NONE, "blank 0" + LEAST + NONE, "count 2 = 4");
  }

  private static void promise10Own() {
    runs.play("10 a FRAME that no other one has: of a BLANK PAGE", "make 32 = 0\nown 0 31 = true\nholders 0 31 = 1",
        "read 0 31 7 = 0\nown 0 31 = false\ncount 2 = 1");
    runs.play("10 with the same CELLS", "make 1 = 0", Runs.lines(0, 8, c -> "write 0 0 " + c + " " + (c - 4) + " = 0"),
        "share 0 0 1 = 1\nown 1 0 = true", Runs.lines(0, 8, c -> "read 1 0 " + c + " = " + (c - 4)),
        Runs.lines(0, 8, c -> "read 0 0 " + c + " = " + (c - 4)), "common 0 0 1 0 = false");
    runs.play("10 whether there is a new FRAME: the last one that has it", FIVE_PAGES, "share 0 0 1 = 1",
        "share 0 0 1 = 2\nown 1 0 = true\nown 2 0 = true", "own 0 0 = false\ncount 2 = 6\nown 1 0 = false");
    runs.play("10 ArithmeticException: with 200 FRAMES", TWO_HUNDRED_FRAMES, "own 6 7 = false\nown 6 8" + ARITHMETIC,
        "lay 6 8 6 7 1 = 0\nown 6 7" + ARITHMETIC, "own 6 8" + ARITHMETIC, "holders 6 7 = 2\nblank 6 8 = true",
        "own 6 7 = false\ncount 2 = 200");
  }

  private static void promise11Sweep() {
    runs.play("11 sweep: nothing there, nothing that has a FRAME", "sweep = 0\nmake 0 = 0\nmake 32 = 1\nsweep = 0",
        "about 1 1 = 32");
    runs.play("11 all of whose CELLS are 0: not when one is another number", "make 9 = 0",
        Runs.lines(0, 8, c -> "write 0 " + c + " " + c + " -1 = 0"), "own 0 8 = true\nsweep = 1\ncount 2 = 8",
        "holders 0 8 = 0", Runs.lines(0, 8, c -> "holders 0 " + c + " = 1"));
    runs.play("11 all of whose CELLS are 0: not when they add up to 0", "make 2 = 0",
        "write 0 0 0" + LEAST + " = 0\nwrite 0 0 7" + LEAST + " = 0\nabout 0 4 = 0", "write 0 1 0 1 = 0",
        "write 0 1 1 -1 = 0\nsweep = 0\ncount 2 = 2");
    runs.play("11 in all ROWS: the first and the last", FORTY_ROWS, "own 0 0 = true\nown 39 0 = true\nsize 39 32 = 1",
        "own 39 31 = true\nsweep = 3\ncount 2 = 0\nholders 39 31 = 0");
    runs.play("11 how many FRAMES went: one that several PAGES have goes once", "make 2 = 0\nown 0 0 = true",
        "lay 0 1 0 0 1 = 0\nshare 0 0 2 = 1\nholders 0 0 = 4\nsweep = 1", "about 0 1 = 2\nabout 1 1 = 2\nsweep = 0");
    runs.play("11 how many FRAMES went: all 200", Runs.lines(0, 7, i -> "make 32 = " + i),
        Runs.lines(0, 200, i -> "own " + i / 32 + " " + i % 32 + " = true"), "sweep = 200\ncount 2 = 0",
        "own 0 0 = true");
  }

  private static void promise12Merge() {
    runs.play("12 merge: nothing there, no FRAME, one FRAME", "merge = 0\nmake 32 = 0\nmerge = 0\nabout 0 1 = 32",
        "write 0 31 7 1 = 0\nmerge = 0\nholders 0 31 = 1");
    runs.play("12 FRAMES with the same CELLS: all 8", "make 16 = 0",
        Runs.lines(0, 8, c -> "write 0 " + c + " " + c + " 1 = 0"),
        Runs.lines(0, 8, c -> "write 0 " + (8 + c) + " " + c + " 1 = 0"), "merge = 8",
        Runs.lines(0, 8, c -> "common 0 " + c + " 0 " + (8 + c) + " = true"),
        Runs.lines(0, 8, c -> "holders 0 " + c + " = 2"), "count 2 = 8");
    runs.play("12 FRAMES with the same CELLS: all 0, and never with BLANK PAGES", "make 3 = 0\nown 0 0 = true",
        "own 0 2 = true\nmerge = 1\nholders 0 0 = 2\nholders 0 1 = 0", "about 0 1 = 1\nmerge = 0");
    runs.play("12 become one: in the first ROW and the last", FORTY_ROWS, "write 0 0 7 1 = 0\nwrite 39 0 7 1 = 0",
        "merge = 1\ncommon 0 0 39 0 = true\ncount 3 = 1", "write 39 0 7 2 = 1\nread 0 0 7 = 1\nwrite 39 0 7 1 = 2",
        "merge = 1\ndrop 0 = 0\nread 39 0 7 = 1");
    runs.play("12 the others go: how many: 199 of 200", Runs.lines(0, 7, i -> "make 32 = " + i),
        Runs.lines(0, 200, i -> "write " + i / 32 + " " + i % 32 + " 7 -1 = 0"), "merge = 199\ncount 2 = 1",
        "holders 6 7 = 200\nabout 6 1 = 24\nown 6 8 = true");
    runs.play("12 the others go: how many: none that went before", "make 2 = 0\nwrite 0 0 7 5 = 0\nwrite 0 1 7 5 = 0",
        "blank 0 0 = true\nmerge = 0\nread 0 1 7 = 5\nholders 0 1 = 1\ncount 2 = 1");
    runs.play("12 the others go: how many: none of 200 that differ", TWO_HUNDRED_FRAMES, "merge = 0\ncount 2 = 200",
        "holders 6 7 = 1\nwrite 6 7 0 1 = 200\nmerge = 1", "common 0 0 6 7 = true\ncount 2 = 199");
  }

  private static void promise13Common() {
    runs.play("13 Whether two PAGES have one FRAME: not BLANK ones, not the same CELLS alone", "make 4 = 0",
        "write 0 0 0 1 = 0\nwrite 0 1 0 1 = 0\nown 0 2 = true", "common 0 0 0 1 = false\ncommon 0 2 0 3 = false",
        "common 0 3 0 2 = false\nshare 0 3 1 = 1\ncommon 0 3 1 0 = false");
    runs.play("13 Whether two PAGES have one FRAME: a PAGE and itself", "make 2 = 0\nwrite 0 1 0 1 = 0",
        "common 0 1 0 1 = true\ncommon 0 0 0 0 = false");
    runs.play("13 Whether two PAGES have one FRAME: the first and the last", "make 32 = 0\nwrite 0 0 0 1 = 0",
        "lay 0 31 0 0 1 = 0", Runs.lines(1, 40, r -> "share 0 0 32 = " + r), "common 0 0 39 31 = true",
        "common 39 31 0 0 = true\ncommon 39 0 39 31 = true\ncommon 39 30 39 31 = false");
    runs.play("13 NoSuchElementException: of either", "make 1 = 0\nmake 0 = 1\nwrite 0 0 0 1 = 0",
        "common 0 0 0 1" + NONE, "common 0 1 0 0" + NONE, "common 0 1 0 1" + NONE, "common 0 0 1 0" + NONE,
        "common 1 0 0 0" + NONE, "common 1 0 1 0" + NONE, "common 0 0 2 0" + NONE, "common 2 0 0 0" + NONE,
        "common 0 -1 0 -1" + NONE, "common -1 0 -1 0" + NONE, "common 40 0 40 0" + NONE);
  }

  private static void promise14Holders() {
    runs.play("14 (0: it is BLANK)", "make 1 = 0\nholders 0 0 = 0\nown 0 0 = true\nholders 0 0 = 1\nblank 0 0 = true",
        "holders 0 0 = 0");
    runs.play("14 (0: it is BLANK): however many are BLANK", Runs.lines(0, 40, r -> "make 32 = " + r),
        "holders 0 0 = 0\nholders 39 31 = 0");
    runs.play("14 how many PAGES have its FRAME: two of one ROW are two", "make 2 = 0\nwrite 0 0 0 1 = 0",
        "lay 0 1 0 0 1 = 0\nholders 0 0 = 2\nshare 0 0 2 = 1\nholders 0 1 = 4", "size 1 1 = 2\nholders 0 1 = 3",
        "size 1 2 = 1\nholders 0 1 = 3\ndrop 0 = 0\nholders 1 0 = 1");
    runs.play("14 NoSuchElementException", "make 32 = 0\nholders 0 32" + NONE, "holders 0 -1" + NONE,
        "holders 1 0" + NONE, "holders 0" + MOST + NONE, "holders" + LEAST + " 0" + NONE);
  }

  private static void promise15About() {
    runs.play("15 of a ROW of no PAGES", "make 0 = 0", Runs.lines(0, 5, what -> "about 0 " + what + " = 0"));
    runs.play("15 what 0 PAGES, 1 those that are BLANK: none and all", "make 32 = 0\nabout 0 0 = 32\nabout 0 1 = 32",
        Runs.lines(0, 32, p -> "own 0 " + p + " = true"), "about 0 0 = 32\nabout 0 1 = 0\nabout 0 2 = 32",
        "about 0 3 = 32\nabout 0 4 = 0");
    runs.play("15 2 FRAMES (each once)", "make 32 = 0\nwrite 0 0 0 1 = 0\nlay 0 1 0 0 1 = 0\nlay 0 30 0 0 2 = 0",
        "about 0 2 = 1\nwrite 0 31 7 1 = 0\nabout 0 2 = 2", "share 0 0 32 = 1\nabout 1 2 = 2\nabout 0 2 = 2",
        "make 3 = 2\nabout 2 2 = 0");
    runs.play("15 3 FRAMES that it alone has: though two of its PAGES have them", "make 3 = 0\nwrite 0 0 0 1 = 0",
        "lay 0 1 0 0 1 = 0\nabout 0 3 = 1\nshare 0 1 1 = 1", "about 0 3 = 0\nabout 1 3 = 0\nmake 1 = 2\nabout 2 3 = 0",
        "own 1 0 = true\nabout 0 3 = 1\nabout 1 3 = 1");
    runs.play("15 3 FRAMES that it alone has: the first ROW, the last ROW", FORTY_ROWS, "write 0 0 0 1 = 0",
        "lay 39 0 0 0 1 = 0\nabout 0 3 = 0\nabout 39 3 = 0\nown 39 0 = true", "about 0 3 = 1\nabout 39 3 = 1",
        "about 38 3 = 0");
    runs.play("15 3 FRAMES that it alone has: all 200", TWO_HUNDRED_FRAMES,
        Runs.lines(0, 7, r -> "about " + r + " 3 = " + (r < 6 ? 32 : 8)));
    runs.play("15 IllegalArgumentException: another what", "make 1 = 0\nabout 0 -1" + ARGUMENT, "about 0 5" + ARGUMENT,
        "about 0" + LEAST + ARGUMENT, "about 0" + MOST + ARGUMENT);
  }

  private static void promise15AboutCells() {
    runs.play("15 4 all CELLS added: of the first PAGE and the last", "make 32 = 0\nwrite 0 0 0 1 = 0",
        "write 0 0 7 20 = 0\nwrite 0 31 0 300 = 0\nwrite 0 31 7 -4000 = 0\nabout 0 4 = -3679");
    runs.play("15 4 all CELLS added: of each PAGE, also of those with one FRAME", "make 3 = 0\nwrite 0 0 0 5 = 0",
        "lay 0 1 0 0 1 = 0\nabout 0 4 = 10\nlay 0 2 0 0 1 = 0\nabout 0 4 = 15");
    runs.play("15 4 all CELLS added: wraps around", "make 3 = 0\nwrite 0 0 0" + MOST + " = 0\nabout 0 4 =" + MOST,
        "write 0 0 1 1 = 0\nabout 0 4 =" + LEAST,
        "write 0 2 7" + MOST + " = 0\nabout 0 4 = -1\nwrite 0 1 0" + LEAST + " = 0\nabout 0 4 =" + MOST);
    runs.play("15 4 all CELLS added: wraps around downward", "make 1 = 0",
        "write 0 0 0" + LEAST + " = 0\nwrite 0 0 1 -1 = 0\nabout 0 4 =" + MOST,
        "write 0 0 1" + LEAST + " = -1\nabout 0 4 = 0");
  }

  private static void promise16Count() {
    runs.play("16 0 ROWS: none and 40", "count 0 = 0", FORTY_ROWS, "count 0 = 40\ndrop 0 = 0\ndrop 39 = 0",
        "count 0 = 38");
    runs.play("16 1 PAGES of all: none and 1280", "count 1 = 0\nmake 0 = 0\ncount 1 = 0\ndrop 0 = 0",
        Runs.lines(0, 40, r -> "make 32 = " + r), "count 1 = 1280\nsize 39 0 = 32\ncount 1 = 1248\ndrop 0 = 0",
        "count 1 = 1216");
    runs.play("16 2 FRAMES: none and 200", "count 2 = 0", TWO_HUNDRED_FRAMES, "count 2 = 200\nshare 0 0 32 = 7",
        "count 2 = 200");
    runs.play("16 3 FRAMES that PAGES of different ROWS have: not of one ROW", "make 2 = 0\nwrite 0 0 0 1 = 0",
        "lay 0 1 0 0 1 = 0\ncount 3 = 0\nmake 1 = 1\ncount 3 = 0\nlay 1 0 0 0 1 = 0\ncount 3 = 1", "share 0 0 2 = 2",
        "count 3 = 1\ndrop 0 = 0\ncount 3 = 1\ndrop 1 = 0\ncount 3 = 0");
    runs.play("16 3 FRAMES that PAGES of different ROWS have: BLANK ones have none", "make 32 = 0\nshare 0 0 32 = 1",
        "count 3 = 0");
    runs.play("16 3 FRAMES that PAGES of different ROWS have: all 200", TWO_HUNDRED_FRAMES, "count 3 = 0",
        Runs.lines(0, 7, r -> "share " + r + " 0 32 = " + (7 + r)), "count 3 = 200");
    runs.play("16 Else -1", "count -1 = -1\ncount 4 = -1",
        "count" + LEAST + " = -1\ncount" + MOST + " = -1\nmake 3 = 0\ncount 4 = -1\ncount -1 = -1");
  }
}
