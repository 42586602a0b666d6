import java.util.ArrayList;
import java.util.Arrays;
import java.util.Collections;
import java.util.IdentityHashMap;
import java.util.List;
import java.util.NoSuchElementException;
import java.util.Set;

/**
 * The document said again, with nothing kept but the rows: a page is null (blank) or the very array that is its frame.
 * What goes, and who has what in common, is found by looking at all pages anew.
 */
final class Model {
  private final List<List<int[]>> rows = new ArrayList<>(Collections.nCopies(40, null));

  int make(int pages) {
    checkSize(pages);
    return place(new ArrayList<>(Collections.nCopies(pages, null)));
  }

  int share(int r, int from, int n) {
    return place(new ArrayList<>(window(r, from, n)));
  }

  int drop(int r) {
    row(r);
    int before = frames().size();
    rows.set(r, null);
    return before - frames().size();
  }

  int write(int r, int p, int c, int v) {
    int was = read(r, p, c);
    if (page(r, p) != null || v != 0) {
      own(r, p);
      page(r, p)[c] = v;
    }
    return was;
  }

  int read(int r, int p, int c) {
    int[] page = page(r, p);
    if (c < 0 || c > 7) {
      throw new NoSuchElementException();
    }
    return page == null ? 0 : page[c];
  }

  int lay(int r, int p, int s, int q, int n) {
    List<int[]> under = window(r, p, n);
    List<int[]> over = new ArrayList<>(window(s, q, n));
    int before = frames().size();
    for (int i = 0; i < n; i++) {
      under.set(i, over.get(i));
    }
    return before - frames().size();
  }

  int size(int r, int n) {
    List<int[]> row = row(r);
    checkSize(n);
    int had = row.size();
    while (row.size() > n) {
      row.remove(row.size() - 1);
    }
    while (row.size() < n) {
      row.add(null);
    }
    return had;
  }

  boolean blank(int r, int p) {
    page(r, p);
    return row(r).set(p, null) != null;
  }

  boolean own(int r, int p) {
    int[] page = page(r, p);
    if (holders(r, p) == 1) {
      return false;
    }
    if (frames().size() == 200) {
      throw new ArithmeticException();
    }
    row(r).set(p, page == null ? new int[8] : page.clone());
    return true;
  }

  int sweep() {
    int before = frames().size();
    for (List<int[]> row : rowsThere()) {
      row.replaceAll(page -> Arrays.equals(page, new int[8]) ? null : page);
    }
    return before - frames().size();
  }

  int merge() {
    int before = frames().size();
    List<int[]> kept = new ArrayList<>();
    for (List<int[]> row : rowsThere()) {
      row.replaceAll(page -> page == null ? null : keeper(kept, page));
    }
    return before - frames().size();
  }

  boolean common(int r, int p, int s, int q) {
    int[] page = page(r, p);
    int[] other = page(s, q);
    return page != null && page == other;
  }

  int holders(int r, int p) {
    int[] page = page(r, p);
    int found = 0;
    for (List<int[]> row : rowsThere()) {
      for (int[] other : row) {
        found += page != null && page == other ? 1 : 0;
      }
    }
    return found;
  }

  int about(int r, int what) {
    List<int[]> row = row(r);
    if (what < 0 || what > 4) {
      throw new IllegalArgumentException();
    }
    int[] answers = {row.size(), Collections.frequency(row, null), framesIn(row).size(), 0, 0};
    for (int[] frame : framesIn(row)) {
      answers[3] += rowsWith(frame) == 1 ? 1 : 0;
    }
    for (int[] page : row) {
      answers[4] += page == null ? 0 : Arrays.stream(page).sum();
    }
    return answers[what];
  }

  int count(int what) {
    if (what < 0 || what > 3) {
      return -1;
    }
    int[] answers = {rowsThere().size(), 0, frames().size(), 0};
    for (List<int[]> row : rowsThere()) {
      answers[1] += row.size();
    }
    for (int[] frame : frames()) {
      answers[3] += rowsWith(frame) > 1 ? 1 : 0;
    }
    return answers[what];
  }

  private int place(List<int[]> row) {
    int r = rows.indexOf(null);
    if (r < 0) {
      throw new IllegalStateException();
    }
    rows.set(r, row);
    return r;
  }

  private void checkSize(int pages) {
    if (pages < 0 || pages > 32) {
      throw new IllegalArgumentException();
    }
  }

  private List<int[]> row(int r) {
    if (r < 0 || r > 39 || rows.get(r) == null) {
      throw new NoSuchElementException();
    }
    return rows.get(r);
  }

  private int[] page(int r, int p) {
    if (p < 0 || p >= row(r).size()) {
      throw new NoSuchElementException();
    }
    return row(r).get(p);
  }

  private List<int[]> window(int r, int from, int n) {
    if (from < 0 || n < 0 || (long) from + n > row(r).size()) {
      throw new NoSuchElementException();
    }
    return row(r).subList(from, from + n);
  }

  private static int[] keeper(List<int[]> kept, int[] page) {
    for (int[] one : kept) {
      if (Arrays.equals(one, page)) {
        return one;
      }
    }
    kept.add(page);
    return page;
  }

  private List<List<int[]>> rowsThere() {
    List<List<int[]>> there = new ArrayList<>(rows);
    there.removeIf(row -> row == null);
    return there;
  }

  private int rowsWith(int[] frame) {
    int found = 0;
    for (List<int[]> row : rowsThere()) {
      found += framesIn(row).contains(frame) ? 1 : 0;
    }
    return found;
  }

  private static Set<int[]> framesIn(List<int[]> row) {
    Set<int[]> found = Collections.newSetFromMap(new IdentityHashMap<>());
    found.addAll(row);
    found.remove(null);
    return found;
  }

  private Set<int[]> frames() {
    Set<int[]> found = Collections.newSetFromMap(new IdentityHashMap<>());
    for (List<int[]> row : rowsThere()) {
      found.addAll(framesIn(row));
    }
    return found;
  }
}
