/**
 * Each call that is refused, with its answer, and that it changes nothing that a later call shows: an object on
 * which it was called shows the same (see support/Seen.java) as one on which it was not. So with the calls that only ask.
 */
public final class RefusedTest {
  static final int LOW = Integer.MIN_VALUE;
  static final int HIGH = Integer.MAX_VALUE;

  /** One call; a boolean counts 1 or 0, an exception of look() as Check has it. */
  interface Call { long of(FirstSill x); }

  /** Makes one object after another in the same state. */
  interface Made { FirstSill one(); }

  static final String LAWS = "law walk far+up+glass;law stay glass*3+left;law may worth>1 and (left>1 or home or minute<90);law cat 15+worth;";
  static final String STREET = "house a 10 9 own;house b 30 7 by 40;house c 50 5 own;dark k 20 5;dark l 60 2;seed 5;";

  static FirstSill fresh() { return new FirstSill(); }

  /** Just told, with a TAPE of 20 bytes. */
  static FirstSill told() {
    FirstSill x = Check.street(STREET + LAWS);
    Check.feed(x, "house z 1 1;");
    return x;
  }

  static FirstSill housesAlone() { return Check.street("house a 10 9 own;house b 30 7;house c 1 1;law may home;"); }

  static FirstSill darksAlone() { return Check.street("dark k 20 5;dark l 60 2;"); }

  /** As much of all as there can be: a row of 9, 24 TRACKS, 20 to undo, a TAPE of 600, an IMAGE, NIGHTS and a FAULT. */
  static FirstSill full() {
    FirstSill x = Check.street(STREET + LAWS);
    x.night();
    x.send(0, 2);
    x.glass(1, true);
    x.keep();
    for (int i = 0; i < 8; i++) x.send(0, i % 3);
    Check.send(x, 1, 0, 1, 0, 1);
    for (int i = 0; i < 6; i++) x.glass(2, i % 2 == 0);
    x.glass(1, false);
    x.glass(0, true);
    x.out(2, true);
    x.night();
    x.track(0, 2, 52);
    x.track(1, 0, 52);
    x.strike(1);
    for (int i = 3; i < 24; i++) x.track(i % 2, i % 3, 10 * i);
    x.known(3);
    Check.tell(x, "house a 1 1;seed 100000;");
    for (int i = 0; i < 29; i++) x.feed(0x20202020, 0x20202020, 0x20202020, 0x20202020, 0x20202020);
    Check.feed(x, "        house z 1 1;");
    return x;
  }

  private final String state;
  private final Made made;
  private final String seen;
  private final String seenButText;
  private final int houses;
  private final int darks;
  private final int tracks;
  private final int bytes;

  private RefusedTest(String state, int bytes, Made made) {
    this.state = state;
    this.made = made;
    this.bytes = bytes;
    seen = Seen.of(made.one());
    seenButText = Seen.allButText(made.one());
    FirstSill x = made.one();
    houses = x.count(0);
    darks = x.count(1);
    tracks = x.count(4);
  }

  private void refused(String call, long due, Call c) {
    FirstSill x = made.one();
    Check.due(state + ": " + call, c.of(x), due);
    Check.same(state + ": what " + call + " left", Seen.of(x), seen);
  }

  /** A call that only asks, whatever it answers. */
  private void asked(String call, Call c) {
    FirstSill x = made.one();
    c.of(x);
    Check.same(state + ": what " + call + " left", Seen.of(x), seen);
  }

  private int[] noHouses() { return new int[] {LOW, -2, -1, houses, houses + 1, 32, HIGH}; }

  private int[] noDarks() { return new int[] {LOW, -2, -1, darks, darks + 1, 32, HIGH}; }

  private static final int[] NO_MINUTES = {LOW, -1, 0, 241, HIGH};
  private static final int[] NO_GLASSES = {LOW, -1, 10, HIGH};

  private void text() {
    for (int n : new int[] {LOW, -2, -1, bytes + 1, 601, HIGH}) refused("text(" + n + ")", -2, x -> x.text(n));
    if (bytes == 600) refused("feed()", -1, x -> x.feed(0x736565, 0x20313b20, 0, -1, HIGH));
    for (int what : new int[] {LOW, -1, 2, HIGH}) refused("fault(" + what + ")", -1, x -> x.fault(what));
    for (int what : new int[] {LOW, -1, 2, HIGH}) refused("named(" + what + ")", -1, x -> x.named(what, Check.letters("a")));
    for (int letters : new int[] {LOW, -1, 0, 1, HIGH}) {
      refused("named(0, " + letters + ")", -1, x -> x.named(0, letters));
      refused("named(1, " + letters + ")", -1, x -> x.named(1, letters));
    }
    for (int h : noHouses()) {
      refused("look(" + h + ", 0)", Check.NO_HOUSE, x -> Check.look(x, h, 0));
      refused("look(" + h + ", -1)", Check.NO_HOUSE, x -> Check.look(x, h, -1));
    }
    for (int what : new int[] {LOW, -1, 6, HIGH}) {
      refused("look(0, " + what + ")", houses > 0 ? Check.NO_WHAT : Check.NO_HOUSE, x -> Check.look(x, 0, what));
    }
    for (int d : noDarks()) refused("dark(" + d + ", 0)", -1, x -> x.dark(d, 0));
    for (int what : new int[] {LOW, -1, 12, HIGH}) refused("dark(0, " + what + ")", -1, x -> x.dark(0, what));
  }

  /** "NONE with a FAULT, all else stays": all but the TAPE and the FAULT. */
  private void textWithAFault() {
    if (bytes > 0) {
      // the LINE on the TAPE, without its ';'
      int n = bytes == 600 ? 599 : 11;
      faulty("text(" + n + ")", x -> x.text(n));
      return;
    }
    String[] wrong = {"!", "house", "house z 1 1;dark z 1 1;seed 9;law walk 1;law may 0;!", "dark z 1 10;", "seed 7;seed 8;",
      "law stay 9;law stay 9;"};
    for (String text : wrong) faulty("text of \"" + text + "\"", x -> Check.tell(x, text));
  }

  private void faulty(String call, Call c) {
    FirstSill x = made.one();
    Check.due(state + ": " + call, c.of(x), -1);
    Check.same(state + ": all else behind " + call, Seen.allButText(x), seenButText);
  }

  private void laws() {
    for (int d : noDarks()) {
      refused("walk(" + d + ", ..)", -1, x -> x.walk(d, -1, 0, 1, 0));
      for (int what = 0; what < 2; what++) {
        int w = what;
        refused("stays(" + d + ", ..)", -1, x -> x.stays(d, 0, 1, 0, w));
      }
    }
    for (int h : noHouses()) {
      refused("walk(0, NONE, " + h + ")", -1, x -> x.walk(0, -1, h, 1, 0));
      if (h != -1) refused("walk(0, " + h + ", 0)", -1, x -> x.walk(0, h, 0, 1, 0));
      refused("stays(0, " + h + ")", -1, x -> x.stays(0, h, 1, 0, 0));
      refused("cat(" + h + ", 1)", -1, x -> x.cat(h, 1));
    }
    for (int m : NO_MINUTES) {
      refused("walk on " + m, -1, x -> x.walk(0, -1, 0, m, 0));
      refused("stays on " + m, -1, x -> x.stays(0, 0, m, 0, 0));
      refused("cat on " + m, -1, x -> x.cat(0, m));
    }
    for (int g : NO_GLASSES) {
      refused("walk with " + g, -1, x -> x.walk(0, -1, 0, 1, g));
      refused("stays with " + g, -1, x -> x.stays(0, 0, 1, g, 0));
    }
    for (int what : new int[] {LOW, -1, 2, HIGH}) refused("stays of " + what, -1, x -> x.stays(0, 0, 1, 0, what));
  }

  private void plan() {
    for (int d : noDarks()) {
      refused("send(" + d + ", 0)", -1, x -> x.send(d, 0));
      refused("drop(" + d + ")", -1, x -> x.drop(d));
    }
    for (int h : noHouses()) {
      for (int d = 0; d < 2; d++) {
        int dark = d;
        refused("send(" + d + ", " + h + ")", -1, x -> x.send(dark, h));
      }
      refused("glass(" + h + ", true)", 0, x -> x.glass(h, true) ? 1 : 0);
      refused("glass(" + h + ", false)", 0, x -> x.glass(h, false) ? 1 : 0);
      refused("out(" + h + ", true)", 0, x -> x.out(h, true) ? 1 : 0);
      refused("out(" + h + ", false)", 0, x -> x.out(h, false) ? 1 : 0);
    }
    FirstSill now = made.one();
    for (int h = 0; h < houses; h++) {
      int house = h;
      boolean refusedNow = Check.look(now, h, 4) == 1;
      boolean outNow = Check.look(now, h, 5) == 1;
      refused("glass as it is", 0, x -> x.glass(house, refusedNow) ? 1 : 0);
      refused("out as it is", 0, x -> x.out(house, outNow) ? 1 : 0);
      if (Check.look(now, h, 3) == 0) refused("out, not OWN", 0, x -> x.out(house, true) ? 1 : 0);
    }
    for (int d = 0; d < darks; d++) {
      int dark = d;
      if (now.dark(d, 2) == 0) refused("drop of an empty row", -1, x -> x.drop(dark));
      for (int h = 0; h < houses; h++) {
        int house = h;
        if (now.dark(d, 2) == 9) refused("send, 9 are there", -1, x -> x.send(dark, house));
      }
    }
  }

  private void asPlanned() {
    for (int h : noHouses()) {
      refused("done(" + h + ", 0)", -1, x -> x.done(h, 0));
      refused("was(" + h + ", 0)", -1, x -> x.was(h, 0));
      refused("chance(0, " + h + ")", -1, x -> x.chance(0, h));
      refused("price(" + h + ")", -1, x -> x.price(h));
    }
    for (int what : new int[] {LOW, -1, 2, HIGH}) {
      refused("done(0, " + what + ")", -1, x -> x.done(0, what));
      refused("was(0, " + what + ")", -1, x -> x.was(0, what));
    }
    for (int d : noDarks()) {
      refused("where(" + d + ", 1)", -1, x -> x.where(d, 1));
      refused("after(" + d + ", 0)", -1, x -> x.after(d, 0));
    }
    for (int m : NO_MINUTES) refused("where(0, " + m + ")", -1, x -> x.where(0, m));
    for (int what : new int[] {LOW, -1, 5, HIGH}) refused("after(0, " + what + ")", -1, x -> x.after(0, what));
    for (int what : new int[] {LOW, -1, 3, HIGH}) refused("which(" + what + ")", -1, x -> x.which(what));
    for (int seed : new int[] {LOW, -2, -1}) refused("chance(" + seed + ", 0)", -1, x -> x.chance(seed, 0));
  }

  private void best() {
    for (int n : new int[] {LOW, -1, darks + 1, HIGH}) {
      refused("best(" + n + ")", -1, x -> x.best(n));
      refused("chosen(" + n + ", 0, 0)", -1, x -> x.chosen(n, 0, 0));
    }
    for (int d : noDarks()) refused("chosen(all, " + d + ", 0)", -1, x -> x.chosen(darks, d, 0));
    for (int k : new int[] {LOW, -1}) refused("chosen(all, 0, " + k + ")", -1, x -> x.chosen(darks, 0, k));
    for (int k : new int[] {6, HIGH}) refused("chosen(all, 0, " + k + ")", darks > 0 ? -2 : -1, x -> x.chosen(darks, 0, k));
    for (int set : new int[] {LOW, -1, 1 << houses, HIGH}) refused("all(" + set + ")", -1, x -> x.all(set));
    for (int what : new int[] {LOW, -1, 5, HIGH}) refused("exchange(" + what + ")", -1, x -> x.exchange(what));
    for (int what : new int[] {LOW, -1, 2, HIGH}) refused("refusal(" + what + ")", -1, x -> x.refusal(what));
    for (int what : new int[] {LOW, -1, 6, HIGH}) refused("tried(" + what + ", 0)", -1, x -> x.tried(what, 0));
    for (int what : new int[] {0, 1, 2, 5}) {
      for (int i : new int[] {LOW, -1, 1, HIGH}) refused("tried(" + what + ", " + i + ")", -1, x -> x.tried(what, i));
    }
    for (int h : noHouses()) refused("tried(3, " + h + ")", -1, x -> x.tried(3, h));
    for (int d : noDarks()) refused("tried(4, " + d + ")", -1, x -> x.tried(4, d));
    if (made.one().exchange(0) == -2) refused("climb()", 0, x -> x.climb());
  }

  private void tracks() {
    for (int d : noDarks()) {
      refused("track(" + d + ", 0, 1)", -1, x -> x.track(d, 0, 1));
      refused("tales(" + d + ")", -1, x -> x.tales(d));
      refused("tale(" + d + ", 0, 0)", -1, x -> x.tale(d, 0, 0));
    }
    for (int h : noHouses()) refused("track(0, " + h + ", 1)", -1, x -> x.track(0, h, 1));
    for (int m : NO_MINUTES) refused("track(0, 0, " + m + ")", -1, x -> x.track(0, 0, m));
    for (int t : new int[] {LOW, -1, tracks, tracks + 1, HIGH}) refused("strike(" + t + ")", -1, x -> x.strike(t));
    if (tracks == 24) {
      refused("track, there are 24", -1, x -> x.track(0, 0, 1));
      for (int t = 0; t < 24; t++) {
        int track = t;
        refused("strike(" + t + "), there are 24", -1, x -> x.strike(track));
      }
    }
    for (int n : new int[] {LOW, -2, tracks + 1, HIGH}) refused("known(" + n + ")", 0, x -> x.known(n) ? 1 : 0);
    for (int k : new int[] {LOW, -1}) refused("tale(0, " + k + ", 0)", -1, x -> x.tale(0, k, 0));
    for (int i : new int[] {LOW, -1}) refused("tale(0, 0, " + i + ")", -1, x -> x.tale(0, 0, i));
    refused("tale(0, most, 0)", darks > 0 ? -3 : -1, x -> x.tale(0, HIGH, 0));
    if (made.one().undo() == -1) refused("undo()", -1, x -> x.undo());
    if (made.one().back() == -1) refused("back()", -1, x -> x.back());
    for (int what : new int[] {LOW, -1, 8, HIGH}) refused("count(" + what + ")", -1, x -> x.count(what));
  }

  /** "nothing else changes": all that only asks. */
  private void askedAlone() {
    for (int h = 0; h < houses; h++) {
      int house = h;
      asked("chance(7, " + h + ")", x -> x.chance(7, house));
      asked("done(" + h + ", 0)", x -> x.done(house, 0));
      asked("was(" + h + ", 0)", x -> x.was(house, 0));
      asked("price(" + h + ")", x -> x.price(house));
      asked("tried(3, " + h + ")", x -> x.tried(3, house));
      asked("cat(" + h + ", 9)", x -> x.cat(house, 9));
      asked("look(" + h + ", 4)", x -> Check.look(x, house, 4));
    }
    for (int d = 0; d < darks; d++) {
      int dark = d;
      asked("dark(" + d + ", 3)", x -> x.dark(dark, 3));
      asked("where(" + d + ", 100)", x -> x.where(dark, 100));
      asked("after(" + d + ", 2)", x -> x.after(dark, 2));
      asked("tried(4, " + d + ")", x -> x.tried(4, dark));
      asked("tales(" + d + ")", x -> x.tales(dark));
      asked("tale(" + d + ", 1, 0)", x -> x.tale(dark, 1, 0));
      asked("chosen(all, " + d + ", 0)", x -> x.chosen(darks, dark, 0));
      asked("walk(" + d + ", NONE, 0)", x -> x.walk(dark, -1, 0, 100, 9));
      asked("stays(" + d + ", 0, 0)", x -> x.stays(dark, 0, 100, 9, 0));
      asked("stays(" + d + ", 0, 1)", x -> x.stays(dark, 0, 100, 9, 1));
    }
    for (int i = 0; i < 8; i++) {
      int what = i;
      asked("count(" + i + ")", x -> x.count(what));
      asked("which(" + i + ")", x -> x.which(what));
      asked("exchange(" + i + ")", x -> x.exchange(what));
      asked("refusal(" + i + ")", x -> x.refusal(what));
      asked("tried(" + i + ", 0)", x -> x.tried(what, 0));
      asked("best(" + i + ")", x -> x.best(what));
      asked("all(" + i + ")", x -> x.all(what));
      asked("fault(" + i + ")", x -> x.fault(what));
      asked("named(" + i + ")", x -> x.named(what, Check.letters("a")));
    }
    asked("gain()", x -> x.gain());
    asked("many()", x -> x.many());
  }

  private void everyCall() {
    text();
    textWithAFault();
    laws();
    plan();
    asPlanned();
    best();
    tracks();
    askedAlone();
  }

  /** The full one is full indeed, so that what is refused there is refused by that. */
  static void fullIsFull() {
    FirstSill x = full();
    int[] due = {3, 2, -1, -1, 24, 3, 20, 2};
    for (int what = 0; what < 8; what++) if (due[what] != -1) Check.due("full: count(" + what + ")", x.count(what), due[what]);
    Check.due("full: nine", x.dark(0, 2), 9);
    Check.due("full: REFUSED", Check.look(x, 0, 4), 1);
    Check.due("full: OUT", Check.look(x, 2, 5), 1);
    Check.due("full: a FAULT", x.fault(0), 2);
    Check.due("full: its place", x.fault(1), 17);
    Check.due("full: no byte more", x.feed(0, 0, 0, 0, 0), -1);
    Check.due("full: an IMAGE", x.back() == -1, false);
    Check.due("full: one HOUSE in it", x.dark(0, 2), 1);
  }

  public static void main(String[] args) {
    fullIsFull();
    new RefusedTest("a new object", 0, RefusedTest::fresh).everyCall();
    new RefusedTest("just told", 20, RefusedTest::told).everyCall();
    new RefusedTest("houses alone", 0, RefusedTest::housesAlone).everyCall();
    new RefusedTest("dark ones alone", 0, RefusedTest::darksAlone).everyCall();
    new RefusedTest("a full one", 600, RefusedTest::full).everyCall();
    Check.end();
  }
}
