/** Numbers that are drawn the same way on every run, so that a failing run can be run again. */
final class Lot {
  private long state;

  Lot(long seed) { state = seed * 7919 + 17; }

  int below(int n) {
    state = state * 6364136223846793005L + 1442695040888963407L;
    return (int) ((state >>> 33) % n);
  }

  /** From the first to the last one, both of them too. */
  int from(int first, int last) { return first + below(last - first + 1); }

  boolean oneIn(int n) { return below(n) == 0; }

  <T> T one(T[] of) { return of[below(of.length)]; }
}
