import java.util.Arrays;
import java.util.NoSuchElementException;

/** Rows of pages that have their frames in common until one of them is written. */
public final class CloneTree {
  private static final int MOST_ROWS = 40;
  private static final int MOST_PAGES = 32;
  private static final int MOST_FRAMES = 200;
  private static final int CELLS_OF_A_PAGE = 8;

  private static final int NOT_THERE = -1;
  // No frame has the number 0. Its cells are never written, so a blank page reads and copies like any other.
  private static final int BLANK = 0;

  private static final int NO_ROW = -1;
  private static final int SEVERAL_ROWS = -2;

  // Pages that a row has not are BLANK in frameOf, so that a row can grow without being cleared.
  private final int[] pagesOf;
  private final int[][] frameOf;

  // A frame is there as long as it has holders.
  private final int[][] cellsOf;
  private final int[] holdersOf;

  // Scratch of single calls, made once so that no call makes anything.
  private final int[] carried;
  private final int[] ownerOf;
  private final int[] keeperOf;

  public CloneTree() {
    pagesOf = new int[MOST_ROWS];
    Arrays.fill(pagesOf, NOT_THERE);
    frameOf = new int[MOST_ROWS][MOST_PAGES];
    cellsOf = new int[MOST_FRAMES + 1][CELLS_OF_A_PAGE];
    holdersOf = new int[MOST_FRAMES + 1];
    carried = new int[MOST_PAGES];
    ownerOf = new int[MOST_FRAMES + 1];
    keeperOf = new int[MOST_FRAMES + 1];
  }

  public int make(int pages) throws IllegalArgumentException, IllegalStateException {
    requirePageCount(pages);
    int r = requireFreeRow();
    pagesOf[r] = pages;
    return r;
  }

  public int share(int r, int from, int n) throws NoSuchElementException, IllegalStateException {
    requirePages(r, from, n);
    int made = requireFreeRow();
    pagesOf[made] = n;
    for (int i = 0; i < n; i++) {
      pointTo(made, i, frameOf[r][from + i]);
    }
    return made;
  }

  public int drop(int r) throws NoSuchElementException {
    requireRow(r);
    int went = blankFrom(r, 0);
    pagesOf[r] = NOT_THERE;
    return went;
  }

  public int write(int r, int p, int c, int v) throws NoSuchElementException, ArithmeticException {
    requirePage(r, p);
    requireCell(c);
    int was = cellsOf[frameOf[r][p]][c];
    if (frameOf[r][p] == BLANK && v == 0) {
      return was;
    }
    if (!hasFrameAlone(r, p)) {
      giveNewFrame(r, p);
    }
    cellsOf[frameOf[r][p]][c] = v;
    return was;
  }

  public int read(int r, int p, int c) throws NoSuchElementException {
    requirePage(r, p);
    requireCell(c);
    return cellsOf[frameOf[r][p]][c];
  }

  public int lay(int r, int p, int s, int q, int n) throws NoSuchElementException {
    requirePages(r, p, n);
    requirePages(s, q, n);
    // All are held before any is let go: a frame that only changes its place within a row has not gone.
    for (int i = 0; i < n; i++) {
      carried[i] = frameOf[s][q + i];
      hold(carried[i]);
    }
    int went = 0;
    for (int i = 0; i < n; i++) {
      int old = frameOf[r][p + i];
      frameOf[r][p + i] = carried[i];
      went += letGo(old);
    }
    return went;
  }

  public int size(int r, int n) throws NoSuchElementException, IllegalArgumentException {
    requireRow(r);
    requirePageCount(n);
    int had = pagesOf[r];
    blankFrom(r, n);
    pagesOf[r] = n;
    return had;
  }

  public boolean blank(int r, int p) throws NoSuchElementException {
    requirePage(r, p);
    boolean hadFrame = frameOf[r][p] != BLANK;
    pointTo(r, p, BLANK);
    return hadFrame;
  }

  public boolean own(int r, int p) throws NoSuchElementException, ArithmeticException {
    requirePage(r, p);
    if (hasFrameAlone(r, p)) {
      return false;
    }
    giveNewFrame(r, p);
    return true;
  }

  public int sweep() {
    int went = 0;
    for (int r = 0; r < MOST_ROWS; r++) {
      for (int p = 0; p < pagesOf[r]; p++) {
        if (sameCells(frameOf[r][p], BLANK)) {
          went += pointTo(r, p, BLANK);
        }
      }
    }
    return went;
  }

  public int merge() {
    findKeepers();
    int went = 0;
    for (int r = 0; r < MOST_ROWS; r++) {
      for (int p = 0; p < pagesOf[r]; p++) {
        went += pointTo(r, p, keeperOf[frameOf[r][p]]);
      }
    }
    return went;
  }

  public boolean common(int r, int p, int s, int q) throws NoSuchElementException {
    requirePage(r, p);
    requirePage(s, q);
    return frameOf[r][p] != BLANK && frameOf[r][p] == frameOf[s][q];
  }

  public int holders(int r, int p) throws NoSuchElementException {
    requirePage(r, p);
    return holdersOf[frameOf[r][p]];
  }

  public int about(int r, int what) throws NoSuchElementException, IllegalArgumentException {
    requireRow(r);
    switch (what) {
      case 0:
        return pagesOf[r];
      case 1:
        return blankPages(r);
      case 2:
        return framesOf(r);
      case 3:
        return framesOwnedBy(r);
      case 4:
        return sumOfCells(r);
      default:
        throw new IllegalArgumentException();
    }
  }

  public int count(int what) {
    switch (what) {
      case 0:
        return rowsThere();
      case 1:
        return pagesThere();
      case 2:
        return framesThere();
      case 3:
        return framesOwnedBy(SEVERAL_ROWS);
      default:
        return -1;
    }
  }

  // ---- what a call asks for before it changes anything

  private void requireRow(int r) {
    if (!isRow(r)) {
      throw new NoSuchElementException();
    }
  }

  private void requirePage(int r, int p) {
    if (!isRow(r) || p < 0 || p >= pagesOf[r]) {
      throw new NoSuchElementException();
    }
  }

  private void requirePages(int r, int from, int n) {
    // pagesOf - n, since from + n could wrap around
    if (!isRow(r) || from < 0 || n < 0 || from > pagesOf[r] - n) {
      throw new NoSuchElementException();
    }
  }

  private void requireCell(int c) {
    if (c < 0 || c >= CELLS_OF_A_PAGE) {
      throw new NoSuchElementException();
    }
  }

  private void requirePageCount(int pages) {
    if (pages < 0 || pages > MOST_PAGES) {
      throw new IllegalArgumentException();
    }
  }

  private int requireFreeRow() {
    for (int r = 0; r < MOST_ROWS; r++) {
      if (pagesOf[r] == NOT_THERE) {
        return r;
      }
    }
    throw new IllegalStateException();
  }

  private int requireFreeFrame() {
    for (int f = 1; f <= MOST_FRAMES; f++) {
      if (holdersOf[f] == 0) {
        return f;
      }
    }
    throw new ArithmeticException();
  }

  private boolean isRow(int r) {
    return r >= 0 && r < MOST_ROWS && pagesOf[r] != NOT_THERE;
  }

  // ---- which page has which frame

  private boolean hasFrameAlone(int r, int p) {
    return holdersOf[frameOf[r][p]] == 1;
  }

  private void giveNewFrame(int r, int p) {
    int fresh = requireFreeFrame();
    System.arraycopy(cellsOf[frameOf[r][p]], 0, cellsOf[fresh], 0, CELLS_OF_A_PAGE);
    pointTo(r, p, fresh);
  }

  /** Answers how many frames went, as letGo does. */
  private int pointTo(int r, int p, int frame) {
    int old = frameOf[r][p];
    // Held first: the page may have this frame already.
    hold(frame);
    frameOf[r][p] = frame;
    return letGo(old);
  }

  private int blankFrom(int r, int from) {
    int went = 0;
    for (int p = from; p < pagesOf[r]; p++) {
      went += pointTo(r, p, BLANK);
    }
    return went;
  }

  // Blank pages are not counted: BLANK has 0 holders always, which is what holders answers for it.
  private void hold(int frame) {
    if (frame != BLANK) {
      holdersOf[frame]++;
    }
  }

  private int letGo(int frame) {
    if (frame == BLANK) {
      return 0;
    }
    holdersOf[frame]--;
    return holdersOf[frame] == 0 ? 1 : 0;
  }

  // ---- frames with the same cells

  private boolean sameCells(int f, int g) {
    for (int c = 0; c < CELLS_OF_A_PAGE; c++) {
      if (cellsOf[f][c] != cellsOf[g][c]) {
        return false;
      }
    }
    return true;
  }

  // BLANK keeps itself and is never looked at for a frame: one that is all 0 stays a frame when merging.
  private void findKeepers() {
    keeperOf[BLANK] = BLANK;
    for (int f = 1; f <= MOST_FRAMES; f++) {
      keeperOf[f] = holdersOf[f] == 0 ? f : firstWithCellsOf(f);
    }
  }

  private int firstWithCellsOf(int f) {
    for (int g = 1; g < f; g++) {
      if (holdersOf[g] > 0 && sameCells(g, f)) {
        return g;
      }
    }
    return f;
  }

  // ---- what is counted

  private int blankPages(int r) {
    int found = 0;
    for (int p = 0; p < pagesOf[r]; p++) {
      if (frameOf[r][p] == BLANK) {
        found++;
      }
    }
    return found;
  }

  private int framesOf(int r) {
    int found = 0;
    for (int p = 0; p < pagesOf[r]; p++) {
      if (frameOf[r][p] != BLANK && isFirstWithItsFrame(r, p)) {
        found++;
      }
    }
    return found;
  }

  private boolean isFirstWithItsFrame(int r, int p) {
    for (int q = 0; q < p; q++) {
      if (frameOf[r][q] == frameOf[r][p]) {
        return false;
      }
    }
    return true;
  }

  private int framesOwnedBy(int owner) {
    findOwners();
    int found = 0;
    for (int f = 1; f <= MOST_FRAMES; f++) {
      if (ownerOf[f] == owner) {
        found++;
      }
    }
    return found;
  }

  private void findOwners() {
    Arrays.fill(ownerOf, NO_ROW);
    for (int r = 0; r < MOST_ROWS; r++) {
      for (int p = 0; p < pagesOf[r]; p++) {
        int f = frameOf[r][p];
        boolean alone = ownerOf[f] == NO_ROW || ownerOf[f] == r;
        ownerOf[f] = alone ? r : SEVERAL_ROWS;
      }
    }
  }

  private int sumOfCells(int r) {
    int sum = 0;
    for (int p = 0; p < pagesOf[r]; p++) {
      for (int c = 0; c < CELLS_OF_A_PAGE; c++) {
        sum += cellsOf[frameOf[r][p]][c];
      }
    }
    return sum;
  }

  private int rowsThere() {
    int found = 0;
    for (int r = 0; r < MOST_ROWS; r++) {
      if (isRow(r)) {
        found++;
      }
    }
    return found;
  }

  private int pagesThere() {
    int pages = 0;
    for (int r = 0; r < MOST_ROWS; r++) {
      if (isRow(r)) {
        pages += pagesOf[r];
      }
    }
    return pages;
  }

  private int framesThere() {
    int found = 0;
    for (int f = 1; f <= MOST_FRAMES; f++) {
      if (holdersOf[f] > 0) {
        found++;
      }
    }
    return found;
  }
}
