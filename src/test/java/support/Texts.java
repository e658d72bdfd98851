import java.util.ArrayList;
import java.util.List;

/** Draws TEXTS: told rightly, or with something wrong in them. */
final class Texts {
  private static final String[] HOUSES = {"a", "bob", "cy", "dora", "zzzzzz", "inn", "abbey"};
  private static final String[] DARKS = {"k", "joe", "bob", "zachar"};
  private static final String[] NAMES = {"far", "glass", "minute", "up", "left", "worth", "home"};
  private static final String[] WORDS = {"house", "dark", "seed", "law", "walk", "stay", "may", "cat", "by", "own", "or",
    "and", "not", "far", "glass", "minute", "up", "left", "worth", "home", "x", "abcdefg", "1", "0", "100", "9999",
    "10000", "99999999999999999999", "007", "<", "<=", "=", "<>", ">=", ">", "+", "-", "*", "/", "(", ")", ";", "!", "A",
    "\t", "\r", "\n", "\u0000", "\u00e9", "\u00ff", ""};

  private final Lot lot;

  Texts(Lot lot) { this.lot = lot; }

  String right(int houses, int darks) {
    List<String> lines = new ArrayList<>();
    int near = lot.oneIn(3) ? 4 : lot.oneIn(2) ? 20 : 99;
    for (int i = 0; i < houses; i++) {
      String by = lot.oneIn(2) ? " by " + lot.from(1, lot.oneIn(2) ? 240 : 30) : "";
      lines.add("house " + HOUSES[i] + " " + lot.from(0, near) + " " + lot.from(0, lot.oneIn(2) ? 99 : 5) + by
          + (lot.oneIn(3) ? " own" : "") + ";");
    }
    for (int i = 0; i < darks; i++) lines.add("dark " + DARKS[i] + " " + lot.from(0, near) + " " + lot.from(0, 9) + ";");
    if (lot.oneIn(2)) lines.add("seed " + lot.from(0, 99999) + ";");
    if (lot.oneIn(2)) lines.add("law walk " + walk() + ";");
    if (lot.oneIn(2)) lines.add("law stay " + stay() + ";");
    if (lot.oneIn(2)) lines.add("law may " + may() + ";");
    if (lot.oneIn(2)) lines.add("law cat " + cat() + ";");
    StringBuilder text = new StringBuilder();
    // Lines in any order, but houses and dark ones keep theirs: their numbers are used by the tests.
    while (!lines.isEmpty()) text.append(lines.remove(lot.below(Math.min(2, lines.size())))).append(lot.oneIn(4) ? "\n" : "");
    return text.toString();
  }

  private String walk() {
    String[] some = {"far+glass", "far*2-up*3", "far/(1+up)", "minute/10", "0", "far+glass*glass", "5-left", "worth/far",
      "far*(minute>20)+1", "240-minute", "far*far", e(3)};
    return lot.one(some);
  }

  private String stay() {
    String[] some = {"glass+1", "0", "60", "left*3", "minute/glass", "worth/2", "glass*10+left", e(3)};
    return lot.one(some);
  }

  private String may() {
    String[] some = {"home", "not home", "minute>5", "glass<2 or home", "worth>3 and minute<100", "left-1",
      "minute/(minute-9)", e(3)};
    return lot.one(some);
  }

  private String cat() {
    String[] some = {"10", "minute", "worth*2", "(minute>10)*30", "1000", "minute/20-1", "5", e(3)};
    return lot.one(some);
  }

  String e(int depth) {
    int kind = depth == 0 ? lot.below(2) : lot.below(8);
    switch (kind) {
      case 0: return "" + lot.from(0, lot.oneIn(5) ? 9999 : 9);
      case 1: return lot.one(NAMES);
      case 2: return "not " + (lot.oneIn(2) ? "not " : "") + "(" + e(depth - 1) + ")";
      case 3: return "(" + e(depth - 1) + ")" + lot.one(new String[] {"<", "<=", "=", "<>", ">=", ">"}) + "(" + e(depth - 1) + ")";
      case 4: return "(" + e(depth - 1) + lot.one(new String[] {" or ", " and "}) + e(depth - 1) + ")";
      case 5: return "(" + e(depth - 1) + ")" + lot.one(new String[] {"*", "/"}) + "(" + e(depth - 1) + ")";
      default: return "(" + e(depth - 1) + lot.one(new String[] {"+", "-"}) + e(depth - 1) + ")";
    }
  }

  /** A right TEXT in which words have gone, have come or stand elsewhere: it may well still be right. */
  String wrong() {
    String text = right(lot.from(0, 7), lot.from(0, 4));
    for (int times = lot.from(1, 2); times > 0; times--) {
      int at = lot.from(0, text.length());
      int to = Math.min(text.length(), at + lot.below(4));
      String put = lot.oneIn(3) ? "" : (lot.oneIn(2) ? " " : "") + lot.one(WORDS) + (lot.oneIn(2) ? " " : "");
      text = text.substring(0, at) + put + text.substring(to);
    }
    return text;
  }

  /** Words of all kinds, one behind another. */
  String words() {
    StringBuilder text = new StringBuilder();
    for (int n = lot.from(0, 30); n > 0; n--) text.append(lot.one(WORDS)).append(lot.oneIn(2) ? " " : "");
    return text.toString();
  }
}
