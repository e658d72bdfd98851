/**
 * All that an object shows, asked in one run of calls (some 380, of a street of three houses and two dark ones):
 * two objects in the same state show the same. The last of these calls change the object, as what can be undone,
 * the image, the numbers of the nights and the tape are seen only so.
 */
final class Seen {
  private static final String[] NAMES = {"a", "b", "c", "k", "l"};

  private final FirstSill x;
  private final StringBuilder all = new StringBuilder();
  private final int houses;
  private final int darks;

  private Seen(FirstSill x) {
    this.x = x;
    houses = x.count(0);
    darks = x.count(1);
  }

  static String of(FirstSill x) {
    Seen seen = new Seen(x);
    seen.askAll();
    seen.changeAll();
    seen.askTapeAndFault();
    return seen.all.toString();
  }

  /** All but the TAPE and the FAULT. */
  static String allButText(FirstSill x) {
    Seen seen = new Seen(x);
    seen.askAll();
    seen.changeAll();
    return seen.all.toString();
  }

  private void put(String call, long answer) { all.append(call).append(" -> ").append(answer).append('\n'); }

  private void askAll() {
    for (int what = 0; what < 8; what++) put("count(" + what + ")", x.count(what));
    for (String name : NAMES) {
      put("named(0, " + name + ")", x.named(0, Check.letters(name)));
      put("named(1, " + name + ")", x.named(1, Check.letters(name)));
    }
    askHouses();
    askDarks();
    put("gain()", x.gain());
    for (int what = 0; what < 3; what++) put("which(" + what + ")", x.which(what));
    askWas();
    askBest();
    askOthers();
  }

  private void askHouses() {
    for (int h = 0; h < houses; h++) {
      for (int what = 0; what < 6; what++) put("look(" + h + ", " + what + ")", x.look(h, what));
      for (int what = 0; what < 2; what++) put("done(" + h + ", " + what + ")", x.done(h, what));
      put("cat(" + h + ", 1)", x.cat(h, 1));
      put("cat(" + h + ", 240)", x.cat(h, 240));
    }
  }

  private void askDarks() {
    for (int d = 0; d < darks; d++) {
      askRow(d);
      for (int what = 0; what < 5; what++) put("after(" + d + ", " + what + ")", x.after(d, what));
      for (int m : new int[] {1, 10, 30, 240}) put("where(" + d + ", " + m + ")", x.where(d, m));
      for (int h = 0; h < houses; h++) {
        put("walk(" + d + ", NONE, " + h + ")", x.walk(d, -1, h, 1, 0));
        put("stays(" + d + ", " + h + ", 0)", x.stays(d, h, 1, 0, 0));
        put("stays(" + d + ", " + h + ", 1)", x.stays(d, h, 1, 0, 1));
      }
    }
  }

  private void askRow(int d) {
    for (int what = 0; what < 12; what++) put("dark(" + d + ", " + what + ")", x.dark(d, what));
  }

  private void askWas() {
    for (int h = 0; h < houses; h++) {
      put("was(" + h + ", 0)", x.was(h, 0));
      put("was(" + h + ", 1)", x.was(h, 1));
    }
  }

  private void askBest() {
    for (int n = 0; n <= darks; n++) put("best(" + n + ")", x.best(n));
    for (int d = 0; d < darks; d++) for (int k = 0; k < 3; k++) put("chosen(" + d + ", " + k + ")", x.chosen(darks, d, k));
    put("many()", x.many());
    for (int h = 0; h < houses; h++) put("price(" + h + ")", x.price(h));
    for (int set = 0; set < 1 << houses; set++) put("all(" + set + ")", x.all(set));
  }

  private void askOthers() {
    for (int what = 0; what < 5; what++) put("exchange(" + what + ")", x.exchange(what));
    for (int what = 0; what < 2; what++) put("refusal(" + what + ")", x.refusal(what));
    for (int what : new int[] {0, 1, 2, 5}) put("tried(" + what + ", 0)", x.tried(what, 0));
    for (int h = 0; h < houses; h++) put("tried(3, " + h + ")", x.tried(3, h));
    for (int d = 0; d < darks; d++) put("tried(4, " + d + ")", x.tried(4, d));
    askTales();
    for (int h = 0; h < houses; h++) put("chance(1, " + h + ")", x.chance(1, h));
  }

  private void askTales() {
    for (int d = 0; d < darks; d++) {
      put("tales(" + d + ")", x.tales(d));
      put("tale(" + d + ", 0, 0)", x.tale(d, 0, 0));
      put("tale(" + d + ", 1, 0)", x.tale(d, 1, 0));
      put("tale(" + d + ", 1, 1)", x.tale(d, 1, 1));
    }
  }

  private void changeAll() {
    for (int night = 1; night <= 2; night++) {
      put("night() once more", x.night());
      askWas();
    }
    put("track(0, 0, 1)", x.track(0, 0, 1));
    put("strike(0)", x.strike(0));
    put("count(5) behind these", x.count(5));
    for (int d = 0; d < darks; d++) put("tales(" + d + ") behind these", x.tales(d));
    put("climb()", x.climb());
    put("gain() behind it", x.gain());
    undoAll();
    put("back()", x.back());
    put("count(6) behind it", x.count(6));
    put("count(7) behind it", x.count(7));
    for (int d = 0; d < darks; d++) askRow(d);
    for (int h = 0; h < houses; h++) {
      put("look(" + h + ", 4) behind it", x.look(h, 4));
      put("look(" + h + ", 5) behind it", x.look(h, 5));
    }
    askWas();
    put("night() behind it", x.night());
    askWas();
  }

  private void undoAll() {
    for (int i = 0; i < 22; i++) {
      int left = x.undo();
      put("undo()", left);
      if (left == -1) return;
      put("gain() behind it", x.gain());
      for (int d = 0; d < darks; d++) put("dark(" + d + ", 2) behind it", x.dark(d, 2));
      if (houses > 0) put("look(0, 4), look(0, 5) behind it", x.look(0, 4) * 10 + x.look(0, 5));
    }
  }

  private void askTapeAndFault() {
    put("fault(0)", x.fault(0));
    put("fault(1)", x.fault(1));
    int length = x.feed(0x20202020, 0x20202020, 0x20202020, 0x20202020, 0x20202020);
    put("feed of blanks", length);
    put("text of the tape", x.text(length == -1 ? 600 : length));
    put("fault(0) of it", x.fault(0));
    put("fault(1) of it", x.fault(1));
    put("houses of it", x.count(0));
    put("knots of it", x.count(2));
  }
}
