/**
 * Runs of calls that bring a new object to a limit of the document, and the ends of lines whose call is refused.
 * An interface, since a class without a package can't be imported from: tests implement it to use the short names.
 */
interface Scripts {
  String NONE = " = throws.NoSuchElementException\n";
  String ARGUMENT = " = throws.IllegalArgumentException\n";
  String STATE = " = throws.IllegalStateException\n";
  String ARITHMETIC = " = throws.ArithmeticException\n";

  /** Rows 0 .. 39 of one blank page each. */
  String FORTY_ROWS = Runs.lines(0, 40, i -> "make 1 = " + i);

  /** Rows 0 .. 6 of 32 pages; the first 200 of these pages have a frame each, the last 24 of row 6 are blank. */
  String TWO_HUNDRED_FRAMES =
      Runs.lines(0, 7, i -> "make 32 = " + i)
          + Runs.lines(0, 200, i -> "write " + i / 32 + " " + i % 32 + " 0 " + (i + 1) + " = 0");
}
