/** The promises one by one: ordinary inputs, the edges that the document names, and wrong inputs. */
public final class PromisesTest implements Scripts {
  private static final Runs runs = new Runs();

  public static void main(String[] args) {
    promise1NewObject();
    promise2Make();
    promise3Share();
    promise4Drop();
    promise5Write();
    promise5WriteAtTheLimit();
    promise6Read();
    promise7Lay();
    promise7LayWrong();
    promise8Size();
    promise9Blank();
    promise10Own();
    promise11Sweep();
    promise12Merge();
    promise13Common();
    promise14Holders();
    promise15About();
    promise16Count();
    runs.end();
  }

  private static void promise1NewObject() {
    runs.play("1 no rows", "count 0 = 0\ncount 1 = 0\ncount 2 = 0\ncount 3 = 0\nsweep = 0\nmerge = 0",
        Runs.lines(-1, 41, i -> "about " + i + " 0" + NONE),
        "read 0 0 0" + NONE, "write 0 0 0 1" + NONE, "drop 0" + NONE, "share 0 0 0" + NONE,
        "lay 0 0 0 0 0" + NONE, "size 0 0" + NONE, "blank 0 0" + NONE, "own 0 0" + NONE,
        "common 0 0 0 0" + NONE, "holders 0 0" + NONE, "make 0 = 0");
    runs.play("1 the first exception, rows", FORTY_ROWS,
        "make 33" + ARGUMENT, "make -1" + ARGUMENT, "make 1" + STATE,
        "share 0 0 2" + NONE, "share 40 0 0" + NONE, "share 0 0 1" + STATE,
        "drop 17 = 0\nsize 17 33" + NONE, "about 17 5" + NONE, "size 16 33" + ARGUMENT,
        "about 16 5" + ARGUMENT, "count 0 = 39\ncount 1 = 39\nmake 32 = 17");
    runs.play("1 the first exception, frames", TWO_HUNDRED_FRAMES,
        "write 6 31 8 1" + NONE, "write 6 32 0 1" + NONE, "write 7 0 0 1" + NONE, "write 6 31 7 1" + ARITHMETIC,
        "own 6 32" + NONE, "own 7 0" + NONE, "own 6 31" + ARITHMETIC);
    runs.play("1 a call that throws changes nothing", "make 2 = 0\nwrite 0 0 3 4 = 0",
        "make 33" + ARGUMENT, "share 0 1 2" + NONE, "size 0 -1" + ARGUMENT, "lay 0 0 0 1 2" + NONE,
        "write 0 1 8 5" + NONE, "about 0 -1" + ARGUMENT,
        "count 0 = 1\ncount 1 = 2\ncount 2 = 1\nread 0 0 3 = 4\nholders 0 1 = 0\nmake 0 = 1");
  }

  private static void promise2Make() {
    runs.play("2 pages", "make 0 = 0\nmake 32 = 1\nmake 5 = 2",
        "about 0 0 = 0\nabout 1 0 = 32\nabout 1 1 = 32\nabout 2 0 = 5\nabout 2 1 = 5\ncount 1 = 37\ncount 2 = 0",
        "read 0 0 0" + NONE, "read 1 31 7 = 0\nread 2 4 0 = 0\nread 2 5 0" + NONE);
    runs.play("2 not 0 .. 32", "make 33" + ARGUMENT, "make -1" + ARGUMENT, "make 2147483647" + ARGUMENT,
        "make -2147483648" + ARGUMENT, "count 0 = 0\nmake 32 = 0");
    runs.play("2 the least free number", FORTY_ROWS, "make 0" + STATE, "make 32" + STATE, "count 0 = 40",
        "drop 39 = 0\ndrop 5 = 0\ndrop 21 = 0\nmake 2 = 5\nmake 3 = 21\nmake 4 = 39\nmake 0" + STATE);
    runs.play("2 a number that comes again is blank", "make 3 = 0\nwrite 0 2 1 9 = 0\ndrop 0 = 1\nmake 3 = 0",
        "about 0 1 = 3\nread 0 2 1 = 0\nsize 0 32 = 3\nabout 0 1 = 32");
  }

  private static void promise3Share() {
    runs.play("3 a window", "make 4 = 0\nwrite 0 1 0 11 = 0\nwrite 0 3 7 13 = 0\nshare 0 1 3 = 1",
        "about 1 0 = 3\nabout 1 1 = 1\nread 1 0 0 = 11\nread 1 2 7 = 13\nread 1 1 0 = 0",
        "common 0 1 1 0 = true\ncommon 0 3 1 2 = true\ncommon 0 2 1 1 = false\ncount 2 = 2\ncount 3 = 2",
        "share 1 2 1 = 2\nholders 2 0 = 3\nread 2 0 7 = 13\nread 2 1 0" + NONE);
    runs.play("3 blank pages are not in common", "make 1 = 0\nshare 0 0 1 = 1\nwrite 1 0 0 5 = 0",
        "read 0 0 0 = 0\nholders 0 0 = 0\nholders 1 0 = 1");
    runs.play("3 windows at the edges", "make 32 = 0\nwrite 0 31 0 1 = 0\nmake 0 = 1\nshare 0 0 32 = 2",
        "share 0 32 0 = 3\nshare 0 0 0 = 4\nshare 0 31 1 = 5\nshare 1 0 0 = 6\nabout 3 0 = 0\nabout 6 0 = 0",
        "holders 5 0 = 3\nabout 2 0 = 32");
    runs.play("3 pages that it has not", "make 3 = 0", "share 0 3 1" + NONE, "share 0 4 0" + NONE,
        "share 0 0 4" + NONE, "share 0 -1 1" + NONE, "share 0 -1 0" + NONE, "share 0 0 -1" + NONE,
        "share 0 2 -1" + NONE, "share 0 2 2147483647" + NONE, "share 0 2147483647 1" + NONE,
        "share 0 2147483647 2147483647" + NONE, "share 0 -2147483648 -2147483648" + NONE,
        "share 1 0 0" + NONE, "share -1 0 0" + NONE, "share 40 0 0" + NONE, "count 0 = 1");
    runs.play("3 forty rows", FORTY_ROWS, "write 0 0 0 1 = 0\nshare 0 0 1" + STATE, "holders 0 0 = 1",
        "drop 7 = 0\nshare 0 0 1 = 7\nholders 0 0 = 2");
  }

  private static void promise4Drop() {
    runs.play("4 frames that go", "make 4 = 0\nwrite 0 0 0 1 = 0\nwrite 0 1 0 2 = 0\nlay 0 2 0 1 1 = 0",
        "share 0 0 1 = 1\ncount 2 = 2\nholders 0 1 = 2\ndrop 0 = 1\ncount 2 = 1\ncount 0 = 1\ncount 1 = 1",
        "read 1 0 0 = 1\nholders 1 0 = 1\nread 0 0 0" + NONE, "drop 1 = 1\ncount 2 = 0\ncount 1 = 0");
    runs.play("4 rows that are not there", "make 2 = 0\ndrop 1" + NONE, "drop -1" + NONE, "drop 40" + NONE,
        "drop 2147483647" + NONE, "drop -2147483648" + NONE, "drop 0 = 0\ndrop 0" + NONE, "count 0 = 0");
    runs.play("4 frames come free", TWO_HUNDRED_FRAMES, "drop 2 = 32\ncount 2 = 168\nown 6 31 = true\ncount 2 = 169");
  }

  private static void promise5Write() {
    runs.play("5 what it was", "make 2 = 0\nwrite 0 1 7 2147483647 = 0\nwrite 0 1 7 -2147483648 = 2147483647",
        "write 0 1 7 5 = -2147483648\nwrite 0 1 0 6 = 0\nread 0 1 7 = 5\nread 0 1 0 = 6\nread 0 0 0 = 0\ncount 2 = 1");
    runs.play("5 0 on a blank page", "make 1 = 0\nwrite 0 0 3 0 = 0\nholders 0 0 = 0\ncount 2 = 0");
    runs.play("5 a frame of 0 stays", "make 1 = 0\nwrite 0 0 3 8 = 0\nwrite 0 0 3 0 = 8\nholders 0 0 = 1",
        "count 2 = 1\nabout 0 1 = 0");
    runs.play("5 in common with another row", "make 1 = 0\nwrite 0 0 0 1 = 0\nwrite 0 0 1 2 = 0\nshare 0 0 1 = 1",
        "write 1 0 1 9 = 2\nread 0 0 1 = 2\nread 1 0 0 = 1\nread 1 0 1 = 9\ncommon 0 0 1 0 = false\ncount 2 = 2",
        "write 0 0 0 4 = 1\ncount 2 = 2\nread 1 0 0 = 1");
    runs.play("5 in common with a page of the same row", "make 2 = 0\nwrite 0 0 0 1 = 0\nlay 0 1 0 0 1 = 0",
        "write 0 0 0 2 = 1\nread 0 1 0 = 1\ncount 2 = 2\nholders 0 0 = 1\nholders 0 1 = 1");
    runs.play("5 the same number again is written too", "make 1 = 0\nwrite 0 0 0 1 = 0\nshare 0 0 1 = 1",
        "write 1 0 0 1 = 1\ncommon 0 0 1 0 = false\ncount 2 = 2");
    runs.play("5 0 into a frame in common", "make 1 = 0\nwrite 0 0 0 1 = 0\nshare 0 0 1 = 1\nwrite 1 0 5 0 = 0",
        "common 0 0 1 0 = false\nread 1 0 0 = 1");
    runs.play("5 a new frame has no cells of one that went", "make 1 = 0",
        Runs.lines(0, 8, c -> "write 0 0 " + c + " 77 = 0"), "blank 0 0 = true\nwrite 0 0 2 5 = 0",
        Runs.lines(0, 8, c -> "read 0 0 " + c + " = " + (c == 2 ? 5 : 0)));
    runs.play("5 wrong", "make 2 = 0", "write 0 2 0 1" + NONE, "write 0 -1 0 1" + NONE, "write 0 0 8 1" + NONE,
        "write 0 0 -1 1" + NONE, "write 0 0 8 0" + NONE, "write 1 0 0 1" + NONE, "write -1 0 0 1" + NONE,
        "write 40 0 0 1" + NONE, "write 0 2147483647 0 1" + NONE, "write 0 0 -2147483648 1" + NONE, "count 2 = 0");
  }

  private static void promise5WriteAtTheLimit() {
    runs.play("5 two hundred frames", TWO_HUNDRED_FRAMES, "count 2 = 200\nwrite 6 8 0 1" + ARITHMETIC,
        "holders 6 8 = 0\nread 6 8 0 = 0\nwrite 6 8 0 0 = 0\nholders 6 8 = 0\nwrite 6 7 0 5 = 200\nread 6 7 0 = 5",
        "share 0 0 2 = 7\nwrite 7 0 0 9" + ARITHMETIC, "write 7 0 0 1" + ARITHMETIC, "write 0 0 0 9" + ARITHMETIC,
        "read 7 0 0 = 1\ncommon 0 0 7 0 = true\ncount 2 = 200\nblank 6 7 = true\nwrite 7 0 0 9 = 1\ncount 2 = 200",
        "read 0 0 0 = 1\nread 7 0 0 = 9\nwrite 7 1 0 9" + ARITHMETIC);
  }

  private static void promise6Read() {
    runs.play("6 all cells", "make 2 = 0", Runs.lines(0, 8, c -> "write 0 1 " + c + " " + (c * c - 9) + " = 0"),
        Runs.lines(0, 8, c -> "read 0 1 " + c + " = " + (c * c - 9)), Runs.lines(0, 8, c -> "read 0 0 " + c + " = 0"),
        "count 2 = 1\nholders 0 0 = 0");
    runs.play("6 wrong", "make 1 = 0\nmake 0 = 1\nread 0 0 8" + NONE, "read 0 0 -1" + NONE, "read 0 1 0" + NONE,
        "read 0 -1 0" + NONE, "read 1 0 0" + NONE, "read 2 0 0" + NONE, "read -1 0 0" + NONE, "read 40 0 0" + NONE,
        "read 0 0 2147483647" + NONE, "read -2147483648 0 0" + NONE);
  }

  private static void promise7Lay() {
    String five = "make 5 = 0\n" + Runs.lines(0, 4, p -> "write 0 " + p + " 0 " + (p + 1) + " = 0");
    runs.play("7 onward in the same row", five, "lay 0 1 0 0 3 = 1",
        "read 0 0 0 = 1\nread 0 1 0 = 1\nread 0 2 0 = 2\nread 0 3 0 = 3\nread 0 4 0 = 0\ncount 2 = 3\nholders 0 0 = 2",
        "holders 0 2 = 1\nholders 0 3 = 1");
    runs.play("7 back in the same row", five, "lay 0 0 0 1 4 = 1",
        Runs.lines(0, 5, p -> "read 0 " + p + " 0 = " + (p < 3 ? p + 2 : 0)), "count 2 = 3\nabout 0 1 = 2");
    runs.play("7 onto itself", five, "lay 0 0 0 0 5 = 0\ncount 2 = 4",
        Runs.lines(0, 4, p -> "holders 0 " + p + " = 1"));
    runs.play("7 of another row", five, "make 3 = 1\nwrite 1 0 0 50 = 0\nwrite 1 2 0 70 = 0\nlay 0 1 1 0 3 = 3",
        "read 0 0 0 = 1\nread 0 1 0 = 50\nread 0 2 0 = 0\nread 0 3 0 = 70\nholders 0 2 = 0\ncommon 0 1 1 0 = true",
        "common 0 3 1 2 = true\ncount 2 = 3\ncount 3 = 2\nwrite 0 1 0 51 = 50\nread 1 0 0 = 50");
    runs.play("7 a frame that another page has stays", five, "share 0 0 2 = 1\nlay 0 0 0 4 1 = 0\nlay 1 0 0 4 1 = 1",
        "read 1 1 0 = 2\nholders 0 1 = 2");
    runs.play("7 a frame twice under the pages goes once", "make 4 = 0\nwrite 0 0 0 1 = 0\nlay 0 1 0 0 1 = 0",
        "lay 0 0 0 2 2 = 1\ncount 2 = 0");
    runs.play("7 no pages", five, "make 0 = 1\nlay 0 5 0 0 0 = 0\nlay 0 0 0 5 0 = 0\nlay 1 0 0 5 0 = 0\ncount 2 = 4");
    runs.play("7 thirty-two pages", "make 32 = 0\nmake 32 = 1",
        Runs.lines(0, 32, p -> "write 0 " + p + " 1 " + p + " = 0"), "lay 1 0 0 0 32 = 0\ncount 2 = 31\ncount 3 = 31",
        "read 1 31 1 = 31\nlay 1 1 1 0 31 = 0\nlay 0 1 0 0 31 = 1");
    runs.play("7 with two hundred frames", TWO_HUNDRED_FRAMES, "lay 6 8 0 0 24 = 0\nlay 1 0 0 0 32 = 32",
        "count 2 = 168");
  }

  private static void promise7LayWrong() {
    runs.play("7 wrong", "make 3 = 0\nmake 2 = 1\nwrite 0 0 0 1 = 0\nwrite 1 0 0 2 = 0", "lay 0 0 0 0 4" + NONE,
        "lay 0 0 1 0 3" + NONE, "lay 1 0 0 0 3" + NONE, "lay 0 2 1 0 2" + NONE, "lay 0 0 1 1 2" + NONE,
        "lay 0 -1 1 0 1" + NONE, "lay 0 0 1 -1 1" + NONE, "lay 0 0 1 0 -1" + NONE, "lay 0 1 1 1 -1" + NONE,
        "lay 0 4 1 0 0" + NONE, "lay 0 0 1 3 0" + NONE, "lay 0 2147483647 1 0 1" + NONE,
        "lay 0 0 1 2147483647 1" + NONE, "lay 0 1 1 1 2147483647" + NONE, "lay 2 0 0 0 0" + NONE,
        "lay 0 0 2 0 0" + NONE, "lay -1 0 0 0 0" + NONE, "lay 0 0 40 0 0" + NONE,
        "read 0 0 0 = 1\nread 1 0 0 = 2\nholders 0 0 = 1\nholders 1 0 = 1\ncount 2 = 2");
  }

  private static void promise8Size() {
    runs.play("8 less and more", "make 3 = 0\nwrite 0 2 0 5 = 0\nwrite 0 1 0 4 = 0\nshare 0 0 3 = 1\nblank 1 1 = true",
        "size 0 1 = 3\ncount 2 = 1\nholders 1 2 = 1\nread 0 1 0" + NONE, "size 0 3 = 1\nread 0 2 0 = 0\nabout 0 1 = 3",
        "size 0 32 = 3\nabout 0 1 = 32\nread 0 31 7 = 0\nsize 0 0 = 32\nabout 0 0 = 0\nread 0 0 0" + NONE,
        "size 0 0 = 0");
    runs.play("8 the pages before stay", "make 4 = 0\nwrite 0 0 0 1 = 0\nwrite 0 1 0 2 = 0\nsize 0 4 = 4\nsize 0 2 = 4",
        "read 0 0 0 = 1\nread 0 1 0 = 2\ncount 2 = 2\ncount 1 = 2");
    runs.play("8 wrong", "make 2 = 0\nwrite 0 1 0 1 = 0", "size 0 33" + ARGUMENT, "size 0 -1" + ARGUMENT,
        "size 0 2147483647" + ARGUMENT, "size 0 -2147483648" + ARGUMENT, "size 1 0" + NONE, "size -1 5" + NONE,
        "size 40 5" + NONE, "size 1 33" + NONE, "about 0 0 = 2\nread 0 1 0 = 1");
  }

  private static void promise9Blank() {
    runs.play("9 blank", "make 2 = 0\nwrite 0 0 0 6 = 0\nshare 0 0 2 = 1\nblank 0 0 = true\nblank 0 0 = false",
        "read 0 0 0 = 0\nread 1 0 0 = 6\nholders 1 0 = 1\ncount 2 = 1\nblank 1 0 = true\ncount 2 = 0",
        "blank 1 1 = false");
    runs.play("9 a frame of 0 was a frame", "make 1 = 0\nown 0 0 = true\nblank 0 0 = true\nblank 0 0 = false");
    runs.play("9 wrong", "make 1 = 0\nwrite 0 0 0 1 = 0", "blank 0 1" + NONE, "blank 0 -1" + NONE, "blank 1 0" + NONE,
        "blank -1 0" + NONE, "blank 40 0" + NONE, "holders 0 0 = 1");
  }

  private static void promise10Own() {
    runs.play("10 own", "make 2 = 0\nwrite 0 0 2 6 = 0\nown 0 0 = false\nshare 0 0 2 = 1\nown 0 0 = true",
        "own 0 0 = false", "own 1 0 = false\ncommon 0 0 1 0 = false\nread 0 0 2 = 6\nread 1 0 2 = 6\ncount 2 = 2",
        "own 1 1 = true", "holders 1 1 = 1\nread 1 1 0 = 0\nholders 0 1 = 0\ncount 2 = 3\nwrite 0 0 2 7 = 6",
        "read 1 0 2 = 6");
    runs.play("10 in common within a row", "make 3 = 0\nwrite 0 0 0 6 = 0\nlay 0 1 0 0 1 = 0\nlay 0 2 0 0 1 = 0",
        "own 0 1 = true\nholders 0 0 = 2\nholders 0 1 = 1\ncommon 0 0 0 2 = true");
    runs.play("10 a blank page after a frame went", "make 1 = 0\nwrite 0 0 4 3 = 0\nblank 0 0 = true\nown 0 0 = true",
        "read 0 0 4 = 0\nabout 0 4 = 0");
    runs.play("10 two hundred frames", TWO_HUNDRED_FRAMES, "own 6 8" + ARITHMETIC, "holders 6 8 = 0\nown 0 0 = false",
        "lay 6 8 0 0 1 = 0\nown 6 8" + ARITHMETIC, "own 0 0" + ARITHMETIC, "holders 0 0 = 2\nread 6 8 0 = 1",
        "blank 3 3 = true\nown 6 8 = true\ncount 2 = 200");
    runs.play("10 wrong", "make 1 = 0", "own 0 1" + NONE, "own 0 -1" + NONE, "own 1 0" + NONE, "own -1 0" + NONE,
        "own 40 0" + NONE, "count 2 = 0");
  }

  private static void promise11Sweep() {
    runs.play("11 sweep", "make 4 = 0\nown 0 0 = true\nwrite 0 1 7 3 = 0\nwrite 0 1 7 0 = 3\nwrite 0 2 7 1 = 0",
        "share 0 0 4 = 1\nsweep = 2\nholders 0 0 = 0\nholders 1 0 = 0\nholders 0 1 = 0\nholders 1 1 = 0",
        "holders 0 2 = 2\nread 0 2 7 = 1\ncount 2 = 1\nsweep = 0\nabout 0 1 = 3");
    runs.play("11 cells that add up to 0", "make 1 = 0\nwrite 0 0 0 5 = 0\nwrite 0 0 1 -5 = 0\nsweep = 0\ncount 2 = 1");
    runs.play("11 any one cell", "make 8 = 0", Runs.lines(0, 8, c -> "write 0 " + c + " " + c + " 1 = 0"),
        "sweep = 0\ncount 2 = 8");
    runs.play("11 all rows", FORTY_ROWS, Runs.lines(0, 40, r -> "own " + r + " 0 = true"), "sweep = 40\ncount 2 = 0");
    runs.play("11 two hundred", TWO_HUNDRED_FRAMES, "write 0 0 0 0 = 1\nwrite 6 7 0 0 = 200\nsweep = 2\ncount 2 = 198");
  }

  private static void promise12Merge() {
    runs.play("12 merge", "make 4 = 0\nmake 2 = 1\nwrite 0 0 3 7 = 0\nwrite 0 1 3 7 = 0\nwrite 1 0 3 7 = 0",
        "write 1 1 4 7 = 0\nmerge = 2\ncommon 0 0 0 1 = true\ncommon 0 0 1 0 = true\nholders 0 0 = 3\ncount 2 = 2",
        "common 0 0 1 1 = false\nholders 1 1 = 1\nread 0 1 3 = 7\nread 1 0 3 = 7\nread 1 1 3 = 0\nmerge = 0",
        "write 0 0 3 8 = 7\nread 0 1 3 = 7\nread 1 0 3 = 7");
    runs.play("12 frames of 0 stay frames", "make 3 = 0\nown 0 0 = true\nown 0 1 = true\nmerge = 1\nholders 0 0 = 2",
        "common 0 0 0 1 = true\nholders 0 2 = 0\ncount 2 = 1\nabout 0 1 = 1");
    runs.play("12 all cells are looked at", "make 9 = 0",
        Runs.lines(0, 8, c -> "write 0 " + c + " " + c + " 1 = 0"), "merge = 0\ncount 2 = 8");
    runs.play("12 the same cells by added number only", "make 2 = 0\nwrite 0 0 0 1 = 0\nwrite 0 0 1 2 = 0",
        "write 0 1 0 2 = 0\nwrite 0 1 1 1 = 0\nmerge = 0\ncommon 0 0 0 1 = false");
    runs.play("12 frames that several pages have", "make 2 = 0\nwrite 0 0 0 1 = 0\nwrite 0 1 0 1 = 0\nshare 0 0 2 = 1",
        "share 0 1 1 = 2\nmerge = 1\nholders 2 0 = 5\ncount 2 = 1\ncount 3 = 1");
    runs.play("12 frames that went are no partners", "make 2 = 0\nwrite 0 0 0 1 = 0\nwrite 0 1 0 1 = 0",
        "blank 0 0 = true", "merge = 0\nholders 0 1 = 1\nholders 0 0 = 0");
    runs.play("12 two hundred", Runs.lines(0, 7, i -> "make 32 = " + i),
        Runs.lines(0, 200, i -> "write " + i / 32 + " " + i % 32 + " 0 " + (i % 5 + 1) + " = 0"),
        "merge = 195\ncount 2 = 5\nholders 0 0 = 40\nread 6 7 0 = 5\nholders 6 8 = 0\ncount 3 = 5\nmerge = 0");
  }

  private static void promise13Common() {
    runs.play("13 common", "make 3 = 0\nwrite 0 0 0 1 = 0\nwrite 0 1 0 1 = 0\nshare 0 0 3 = 1\ncommon 0 0 1 0 = true",
        "common 1 0 0 0 = true\ncommon 0 0 1 1 = false\ncommon 0 0 0 1 = false\ncommon 0 2 1 2 = false",
        "common 0 2 0 2 = false\ncommon 0 0 0 0 = true\ncommon 0 0 0 2 = false\ncommon 0 2 0 0 = false");
    runs.play("13 wrong", "make 1 = 0\nmake 1 = 1\nwrite 0 0 0 1 = 0", "common 0 1 0 0" + NONE, "common 0 0 0 1" + NONE,
        "common 0 0 2 0" + NONE, "common 2 0 0 0" + NONE, "common 0 -1 0 0" + NONE, "common 0 0 1 -1" + NONE,
        "common -1 0 0 0" + NONE, "common 0 0 40 0" + NONE, "common 1 0 1 1" + NONE);
  }

  private static void promise14Holders() {
    runs.play("14 holders", "make 3 = 0\nholders 0 0 = 0\nwrite 0 0 0 1 = 0\nholders 0 0 = 1\nlay 0 1 0 0 1 = 0",
        "holders 0 0 = 2\nshare 0 0 3 = 1\nholders 1 1 = 4\nholders 0 2 = 0\nholders 1 2 = 0\ndrop 0 = 0",
        "holders 1 0 = 2", "size 1 1 = 3\nholders 1 0 = 1");
    runs.play("14 as many as can be", "make 32 = 0\nwrite 0 0 0 1 = 0\nlay 0 1 0 0 1 = 0\nlay 0 2 0 0 2 = 0",
        "lay 0 4 0 0 4 = 0\nlay 0 8 0 0 8 = 0\nlay 0 16 0 0 16 = 0\nholders 0 31 = 32",
        Runs.lines(1, 40, r -> "share 0 0 32 = " + r), "holders 39 31 = 1280\ncount 2 = 1\ndrop 0 = 0",
        "holders 7 7 = 1248");
    runs.play("14 wrong", "make 1 = 0", "holders 0 1" + NONE, "holders 0 -1" + NONE, "holders 1 0" + NONE,
        "holders -1 0" + NONE, "holders 40 0" + NONE);
  }

  private static void promise15About() {
    runs.play("15 about", "make 6 = 0\nwrite 0 0 0 1 = 0\nwrite 0 1 1 20 = 0\nwrite 0 2 7 300 = 0\nlay 0 3 0 2 1 = 0",
        "about 0 0 = 6\nabout 0 1 = 2\nabout 0 2 = 3\nabout 0 3 = 3\nabout 0 4 = 621\nshare 0 0 1 = 1\nabout 0 3 = 2",
        "about 1 3 = 0\nabout 1 2 = 1\nabout 1 4 = 1\nown 1 0 = true\nabout 1 3 = 1\nabout 0 3 = 3");
    runs.play("15 three rows have it", "make 1 = 0\nwrite 0 0 0 1 = 0\nshare 0 0 1 = 1\nshare 0 0 1 = 2",
        "about 0 3 = 0\nabout 1 3 = 0\nabout 2 3 = 0\ndrop 1 = 0\nabout 2 3 = 0\ndrop 0 = 0\nabout 2 3 = 1");
    runs.play("15 a frame of 0 is no blank page", "make 2 = 0\nown 0 0 = true\nabout 0 1 = 1\nabout 0 2 = 1",
        "about 0 4 = 0");
    runs.play("15 a row of no pages", "make 0 = 0", Runs.lines(0, 5, i -> "about 0 " + i + " = 0"));
    runs.play("15 the first page and the last frame", TWO_HUNDRED_FRAMES, "lay 0 1 0 0 1 = 1\nabout 0 0 = 32",
        "about 0 1 = 0", "about 0 2 = 31\nabout 0 3 = 31\nabout 0 4 = 527\nabout 6 2 = 8\nabout 6 3 = 8",
        "about 6 4 = 1572");
    runs.play("15 numbers wrap around", "make 1 = 0\nwrite 0 0 0 2147483647 = 0\nwrite 0 0 1 1 = 0",
        "about 0 4 = -2147483648");
    runs.play("15 wrong", "make 1 = 0", "about 0 5" + ARGUMENT, "about 0 -1" + ARGUMENT,
        "about 0 2147483647" + ARGUMENT, "about 0 -2147483648" + ARGUMENT, "about 1 0" + NONE, "about 1 5" + NONE,
        "about -1 0" + NONE, "about 40 -1" + NONE);
  }

  private static void promise16Count() {
    runs.play("16 count", "make 3 = 0\nmake 0 = 1\nmake 2 = 2\ncount 0 = 3\ncount 1 = 5\ncount 2 = 0\ncount 3 = 0",
        "write 0 0 0 1 = 0\nlay 0 1 0 0 1 = 0\nwrite 2 0 0 1 = 0\ncount 2 = 2\ncount 3 = 0\nlay 2 1 0 0 1 = 0",
        "count 2 = 2\ncount 3 = 1\nshare 2 0 2 = 3\ncount 2 = 2\ncount 3 = 2\ncount 0 = 4\ncount 1 = 7",
        "drop 2 = 0\ncount 3 = 1\ndrop 0 = 0\ncount 3 = 0\ncount 2 = 2\ncount 0 = 2\ncount 1 = 2");
    runs.play("16 else", "make 3 = 0\ncount 4 = -1\ncount -1 = -1\ncount 2147483647 = -1\ncount -2147483648 = -1");
    runs.play("16 forty rows", FORTY_ROWS, "count 0 = 40\ncount 1 = 40\nsize 39 32 = 1\ncount 1 = 71");
    runs.play("16 two hundred frames", TWO_HUNDRED_FRAMES, "count 2 = 200\ncount 3 = 0\nshare 0 0 32 = 7",
        "count 3 = 32");
  }
}
