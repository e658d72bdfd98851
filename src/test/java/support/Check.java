import java.util.NoSuchElementException;

/** Counts what is not as is due, and tells a TEXT to an object. */
final class Check {
  private static int wrong = 0;
  private static int asked = 0;

  static void due(String call, long got, long want) {
    asked++;
    if (got != want) {
      wrong++;
      System.out.println(call + " answered " + got + ", due is " + want);
    }
  }

  static void due(String call, boolean got, boolean want) { due(call, got ? 1 : 0, want ? 1 : 0); }

  /** Feeds a TEXT, filled up with blanks. */
  static void feed(FirstSill x, String text) {
    for (int i = 0; i < text.length(); i += 20) {
      int[] n = new int[5];
      for (int k = 0; k < 20; k++) n[k / 4] = n[k / 4] << 8 | (i + k < text.length() ? text.charAt(i + k) & 255 : 32);
      x.feed(n[0], n[1], n[2], n[3], n[4]);
    }
  }

  static int tell(FirstSill x, String text) {
    feed(x, text);
    return x.text(text.length());
  }

  static FirstSill street(String text) {
    FirstSill x = new FirstSill();
    int lines = tell(x, text);
    if (lines < 0) due("text of \"" + text + "\"", lines, 0);
    return x;
  }

  /** The FAULT and its place that a TEXT has. */
  static void fault(String text, int kind, int place) {
    FirstSill x = new FirstSill();
    due("text of \"" + text + "\"", tell(x, text), -1);
    due("fault(0) of \"" + text + "\"", x.fault(0), kind);
    due("fault(1) of \"" + text + "\"", x.fault(1), place);
  }

  static void right(String text, int lines) {
    FirstSill x = new FirstSill();
    due("text of \"" + text + "\"", tell(x, text), lines);
    due("fault(0) of \"" + text + "\"", x.fault(0), 0);
    due("fault(1) of \"" + text + "\"", x.fault(1), -1);
  }

  /** Sends a DARK one to HOUSES, one behind another. */
  static void send(FirstSill x, int dark, int... houses) {
    for (int house : houses) x.send(dark, house);
  }

  /** What two objects show, which has to be the same. */
  static void same(String told, String got, String want) {
    asked++;
    if (got.equals(want)) return;
    wrong++;
    String[] gots = got.split("\n");
    String[] wants = want.split("\n");
    int i = 0;
    while (i < gots.length && i < wants.length && gots[i].equals(wants[i])) i++;
    System.out.println(told + ": " + (i < gots.length ? gots[i] : "no more") + ", due is " + (i < wants.length ? wants[i] : "no more"));
  }

  /** A name as named() takes it. */
  static int letters(String name) {
    int letters = 0;
    for (int i = 0; i < 6; i++) letters = letters * 32 + (i < name.length() ? name.charAt(i) - 'a' + 1 : 0);
    return letters;
  }

  static final int NO_HOUSE = -1000001;
  static final int NO_WHAT = -1000002;

  /** look(), with numbers of its exceptions. */
  static int look(FirstSill x, int house, int what) {
    try {
      return x.look(house, what);
    } catch (IndexOutOfBoundsException e) {
      return NO_HOUSE;
    } catch (NoSuchElementException e) {
      return NO_WHAT;
    }
  }

  static String repeated(String part, int times) {
    StringBuilder all = new StringBuilder();
    for (int i = 0; i < times; i++) all.append(part);
    return all.toString();
  }

  static void end() {
    System.out.println(wrong == 0 ? asked + " answers are as due" : wrong + " answers of " + asked + " are not as due");
    if (wrong != 0) System.exit(1);
  }

  private Check() { }
}
