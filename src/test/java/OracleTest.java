import java.util.NoSuchElementException;

/** Runs of drawn calls, each answered by FirstSill and by the plain model, which must say the same. */
public final class OracleTest {
  /** An object is used for at most 512 calls; a TEXT takes some 60 of them. */
  private static final int MOST_CALLS = 450;
  private static int wrong = 0;

  private final Lot lot;
  private final FirstSill x = new FirstSill();
  private final Plain p = new Plain();
  private final StringBuilder told = new StringBuilder();
  private int calls = 0;
  private int houses;
  private int darks;

  private OracleTest(long seed) { lot = new Lot(seed); }

  private void same(String call, long got, long due) {
    calls++;
    told.append(call).append(" -> ").append(got).append('\n');
    if (got != due && wrong++ < 5) System.out.println(told + "  due is " + due + "\n");
  }

  private void tell(String text) {
    told.append("\"").append(text).append("\"\n");
    for (int i = 0; i < text.length(); i += 20) {
      int[] n = new int[5];
      for (int k = 0; k < 20; k++) n[k / 4] = n[k / 4] << 8 | (i + k < text.length() ? text.charAt(i + k) & 255 : 32);
      same("feed", x.feed(n[0], n[1], n[2], n[3], n[4]), p.feed(n[0], n[1], n[2], n[3], n[4]));
    }
    int n = lot.oneIn(20) ? lot.from(-1, text.length() + 25) : text.length();
    same("text(" + n + ")", x.text(n), p.text(n));
    for (int what = -1; what <= 2; what++) same("fault(" + what + ")", x.fault(what), p.fault(what));
    houses = p.houses();
    darks = p.darks();
  }

  private int far() { return lot.oneIn(2) ? Integer.MIN_VALUE : Integer.MAX_VALUE; }

  private int house() { return lot.oneIn(60) ? far() : lot.oneIn(12) ? lot.from(-2, 7) : lot.below(Math.max(1, houses)); }

  private int dark() { return lot.oneIn(60) ? far() : lot.oneIn(12) ? lot.from(-2, 4) : lot.below(Math.max(1, darks)); }

  private int minute() {
    return lot.oneIn(60) ? far() : lot.oneIn(8) ? lot.from(-1, 242) : lot.oneIn(2) ? lot.from(1, 240) : lot.from(1, 25);
  }

  private void change() {
    int d = dark();
    int h = house();
    boolean is = lot.oneIn(2);
    switch (lot.below(12)) {
      case 0, 1, 2, 3, 4: same("send(" + d + "," + h + ")", x.send(d, h), p.send(d, h)); break;
      case 5: same("drop(" + d + ")", x.drop(d), p.drop(d)); break;
      case 6: same("glass(" + h + "," + is + ")", x.glass(h, is) ? 1 : 0, p.glass(h, is) ? 1 : 0); break;
      case 7, 8: same("out(" + h + "," + is + ")", x.out(h, is) ? 1 : 0, p.out(h, is) ? 1 : 0); break;
      case 9: same("undo()", x.undo(), p.undo()); break;
      case 10:
        if (lot.oneIn(3)) same("keep()", x.keep(), p.keep());
        else if (lot.oneIn(3)) same("back()", x.back(), p.back());
        break;
      default: if (lot.oneIn(3)) same("climb()", x.climb(), p.climb()); break;
    }
  }

  private void ask() {
    int d = dark();
    int h = house();
    int m = minute();
    int what = lot.from(-1, 8);
    switch (lot.below(14)) {
      case 0: {
        int f = lot.from(-2, houses);
        int g = lot.from(-1, 10);
        same("walk(" + d + "," + f + "," + h + "," + m + "," + g + ")", x.walk(d, f, h, m, g), p.walk(d, f, h, m, g));
        break;
      }
      case 1: {
        int g = lot.from(-1, 10);
        int w = lot.from(-1, 2);
        same("stays(" + d + "," + h + "," + m + "," + g + "," + w + ")", x.stays(d, h, m, g, w), p.stays(d, h, m, g, w));
        break;
      }
      case 2: same("cat(" + h + "," + m + ")", x.cat(h, m), p.cat(h, m)); break;
      case 3: same("done(" + h + "," + what % 3 + ")", x.done(h, what % 3), p.done(h, what % 3)); break;
      case 4: same("where(" + d + "," + m + ")", x.where(d, m), p.where(d, m)); break;
      case 5: same("gain()", x.gain(), p.gain()); break;
      case 6: same("dark(" + d + "," + what + ")", x.dark(d, what), p.dark(d, what)); break;
      case 7: same("after(" + d + "," + what + ")", x.after(d, what), p.after(d, what)); break;
      case 8: same("which(" + what + ")", x.which(what), p.which(what)); break;
      case 9: same("count(" + what + ")", x.count(what), p.count(what)); break;
      case 10: same("night()", x.night(), p.night()); break;
      case 11: same("was(" + h + "," + what % 3 + ")", x.was(h, what % 3), p.was(h, what % 3)); break;
      case 12: same("look(" + h + "," + what + ")", look(h, what), plainLook(h, what)); break;
      default: {
        int i = lot.oneIn(2) ? 0 : what % 2 == 0 ? h : d;
        same("tried(" + what + "," + i + ")", x.tried(what, i), p.tried(what, i));
        break;
      }
    }
  }

  private long look(int h, int what) {
    try {
      return x.look(h, what);
    } catch (IndexOutOfBoundsException e) {
      return -100;
    } catch (NoSuchElementException e) {
      return -200;
    }
  }

  private long plainLook(int h, int what) {
    try {
      return p.look(h, what);
    } catch (IndexOutOfBoundsException e) {
      return -100;
    } catch (NoSuchElementException e) {
      return -200;
    }
  }

  private void trackOrTale() {
    int d = dark();
    int h = house();
    switch (lot.below(6)) {
      case 0: {
        // What he does as planned, so that some TALES are left.
        int by = p.done(h, 0);
        int m = by >= 0 && !lot.oneIn(3) ? p.done(h, 1) : minute();
        int who = by >= 0 ? by : d;
        same("track(" + who + "," + h + "," + m + ")", x.track(who, h, m), p.track(who, h, m));
        break;
      }
      case 1: {
        int t = lot.from(-1, Math.max(0, p.count(4)));
        if (lot.oneIn(2)) same("strike(" + t + ")", x.strike(t), p.strike(t));
        break;
      }
      case 2: {
        int n = lot.from(-2, p.count(4) + 1);
        if (lot.oneIn(3)) same("known(" + n + ")", x.known(n) ? 1 : 0, p.known(n) ? 1 : 0);
        break;
      }
      case 3, 4: same("tales(" + d + ")", x.tales(d), p.tales(d)); break;
      default: {
        int k = lot.from(-1, Math.max(3, p.tales(d)));
        int i = lot.from(-1, 6);
        same("tale(" + d + "," + k + "," + i + ")", x.tale(d, k, i), p.tale(d, k, i));
        break;
      }
    }
  }

  private void askDearly() {
    int n = lot.oneIn(6) ? lot.from(-1, 4) : darks;
    int h = house();
    switch (lot.below(8)) {
      case 0: same("best(" + n + ")", x.best(n), p.best(n)); break;
      case 1: {
        int d = dark();
        int k = lot.from(-1, 4);
        same("chosen(" + n + "," + d + "," + k + ")", x.chosen(n, d, k), p.chosen(n, d, k));
        break;
      }
      case 2: same("many()", x.many(), p.many()); break;
      case 3: same("price(" + h + ")", x.price(h), p.price(h)); break;
      case 4: {
        int set = lot.from(-1, 1 << houses);
        same("all(" + set + ")", x.all(set), p.all(set));
        break;
      }
      case 5: {
        int what = lot.from(-1, 5);
        same("exchange(" + what + ")", x.exchange(what), p.exchange(what));
        break;
      }
      case 6: {
        int what = lot.from(-1, 2);
        same("refusal(" + what + ")", x.refusal(what), p.refusal(what));
        break;
      }
      default: {
        int seed = lot.oneIn(9) ? -1 : lot.oneIn(9) ? Integer.MAX_VALUE : lot.below(1 << 30);
        same("chance(" + seed + "," + h + ")", x.chance(seed, h), p.chance(seed, h));
        break;
      }
    }
  }

  private static void run(long seed, int mostHouses, int steps) {
    OracleTest t = new OracleTest(seed);
    Texts texts = new Texts(t.lot);
    t.tell(texts.right(t.lot.from(mostHouses / 2, mostHouses), t.lot.from(1, 3)));
    for (int i = 0; i < steps && t.calls < MOST_CALLS; i++) {
      int kind = t.lot.below(40);
      if (kind < 16) t.change();
      else if (kind < 31) t.ask();
      else if (kind < 36) t.trackOrTale();
      else t.askDearly();
      if (t.lot.oneIn(150)) t.tell(t.lot.oneIn(2) ? texts.wrong() : texts.right(t.lot.from(0, mostHouses), t.lot.from(0, 3)));
    }
  }

  private static void readWrongs(long seed) {
    OracleTest t = new OracleTest(seed);
    Texts texts = new Texts(t.lot);
    for (int i = 0; i < 40 && t.calls < MOST_CALLS; i++) {
      t.told.setLength(0);
      t.tell(t.lot.oneIn(3) ? texts.words() : texts.wrong());
      for (int what = 0; what < 3; what++) t.same("count(" + what + ")", t.x.count(what), t.p.count(what));
      for (int h = 0; h < t.houses; h++) for (int w = 0; w < 4; w++) t.same("look", t.look(h, w), t.plainLook(h, w));
    }
  }

  public static void main(String[] args) {
    int times = args.length > 0 ? Integer.parseInt(args[0]) : 1;
    for (int seed = 0; seed < 1600 * times; seed++) readWrongs(seed);
    for (int seed = 0; seed < 400 * times; seed++) run(seed, 4, 300);
    for (int seed = 0; seed < 6 * times; seed++) run(1000000 + seed, 6, 60);
    System.out.println(wrong == 0 ? "all answers are as the plain model's" : wrong + " answers are not as the plain model's");
    if (wrong != 0) System.exit(1);
  }
}
