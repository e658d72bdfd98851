/**
 * The edges that "TRACKS ..", "TALES ..", "==== 4." and promises 31 to 35 and 37 to 40 name, sentence by sentence:
 * the last value that is allowed and the first that is not, the empty and the full. What is refused is in
 * RefusedTest once more.
 */
public final class KeptEdgesTest {
  static final int LOW = Integer.MIN_VALUE;
  static final int HIGH = Integer.MAX_VALUE;
  static final String FULL = "house a 0 0;house b 99 99;house c 10 1;house d 20 2;house e 30 3 own;house f 40 4 own;"
      + "dark k 0 0;dark l 99 9;dark m 50 5;";
  static final int[] NO_HOUSES = {LOW, -2, -1, 6, 7, HIGH};
  static final int[] NO_DARKS = {LOW, -2, -1, 3, 4, HIGH};
  static final int[] NO_MINUTES = {LOW, -1, 0, 241, 242, HIGH};

  // ---- "TRACKS, at most 24, numbered from 0 on"; "NONE: no such ones, or there are 24", "NONE: no such TRACK, or there are 24"

  static void twentyFourTracks() {
    FirstSill x = Check.street(FULL);
    for (int i = 0; i < 24; i++) {
      Check.due("how many", x.count(4), i);
      Check.due("track " + i, x.track(i % 3, i % 6, i % 2 == 0 ? 1 : 240), i);
    }
    Check.due("a 25th", x.track(0, 0, 1), -1);
    Check.due("a STRIKE as the 25th", x.strike(0), -1);
    Check.due("of the last one", x.strike(23), -1);
    Check.due("24", x.count(4), 24);
    Check.due("known(24)", x.known(24), true);
    Check.due("known(25)", x.known(25), false);
    Check.due("count(5)", x.count(5), 24);
    // a STRIKE is one of the 24
    x = Check.street(FULL);
    Check.due("no such TRACK yet", x.strike(0), -1);
    Check.due("track", x.track(0, 0, 1), 0);
    for (int i = 1; i < 24; i++) Check.due("strike " + i, x.strike(i - 1), i);
    Check.due("there are 24", x.strike(23), -1);
    Check.due("there are 24", x.track(0, 0, 1), -1);
    Check.due("24", x.count(4), 24);
    // the 24th may be either
    x = Check.street(FULL);
    for (int i = 0; i < 23; i++) x.track(0, 0, 1);
    Check.due("the 24th a STRIKE", x.strike(22), 23);
    Check.due("a 25th", x.track(0, 0, 1), -1);
    Check.tell(x, FULL);
    Check.due("a TEXT: no TRACKS", x.count(4), 0);
    Check.due("numbered from 0 on", x.track(0, 0, 1), 0);
  }

  static void noSuchTrack() {
    FirstSill x = Check.street(FULL);
    for (int d : NO_DARKS) Check.due("dark " + d, x.track(d, 0, 1), -1);
    for (int h : NO_HOUSES) Check.due("house " + h, x.track(0, h, 1), -1);
    for (int m : NO_MINUTES) Check.due("minute " + m, x.track(0, 0, m), -1);
    for (int t : new int[] {LOW, -1, 0, 1, HIGH}) Check.due("strike " + t + " of none", x.strike(t), -1);
    Check.due("none came", x.count(4), 0);
    Check.due("minute 1", x.track(0, 0, 1), 0);
    Check.due("minute 240, the last HOUSE, the last DARK one", x.track(2, 5, 240), 1);
    for (int t : new int[] {LOW, -2, -1, 2, 3, 24, HIGH}) Check.due("strike " + t + " of two", x.strike(t), -1);
    Check.due("strike of the last one", x.strike(1), 2);
    Check.due("strike of a STRIKE, now the last one", x.strike(2), 3);
    Check.due("strike of the first one", x.strike(0), 4);
    Check.due("strike of one that is STRUCK", x.strike(0), 5);
    Check.due("no DARK one", Check.street("house a 1 1;").track(0, 0, 1), -1);
    Check.due("no HOUSE", Check.street("dark k 1 1;").track(0, 0, 1), -1);
    Check.due("no TRACK", new FirstSill().strike(0), -1);
  }

  // ---- "KNOWN by n (all at first): the first n .."; "(-1: by all, also those to come): true; false: no such n"

  /** Of k there are five rows: none, a, a b, b, b a. By a TRACK of a on 11 there are two. */
  static final String TWO = "house a 10 5;house b 20 6;dark k 0 2;dark l 99 2;";

  static void known() {
    FirstSill x = Check.street(TWO);
    for (int n : new int[] {LOW, -2, 1, 2, HIGH}) Check.due("known(" + n + ") of none", x.known(n), false);
    Check.due("known(0) of none", x.known(0), true);
    Check.due("by 0 of none", x.count(5), 0);
    x.track(0, 0, 11);
    Check.due("by 0 still", x.count(5), 0);
    Check.due("not KNOWN", x.tales(0), 5);
    Check.due("known(1)", x.known(1), true);
    Check.due("KNOWN", x.tales(0), 2);
    x.track(0, 0, 12);
    Check.due("by 1 still", x.count(5), 1);
    Check.due("the second is not KNOWN", x.tales(0), 2);
    for (int n : new int[] {LOW, -2, 3, 4, 24, HIGH}) {
      Check.due("known(" + n + ") of two", x.known(n), false);
      Check.due("by 1 still", x.count(5), 1);
    }
    Check.due("known(2)", x.known(2), true);
    Check.due("both KNOWN", x.tales(0), 0);
    x.track(0, 1, 11);
    Check.due("by 2 still", x.count(5), 2);
    Check.due("known(-1)", x.known(-1), true);
    Check.due("by all", x.count(5), 3);
    x.strike(1);
    Check.due("also those to come", x.count(5), 4);
    Check.due("a on 11 and b on 11", x.tales(0), 0);
    x.strike(2);
    Check.due("a on 11", x.tales(0), 2);
    Check.due("known(0)", x.known(0), true);
    Check.due("by none", x.tales(0), 5);
    Check.due("by 0", x.count(5), 0);
    x = Check.street(TWO);
    x.track(0, 0, 12);
    Check.due("all at first", x.count(5), 1);
    Check.due("so KNOWN", x.tales(0), 0);
  }

  /** "that aren't STRUCK by one of these (a STRIKE may be STRUCK: then it doesn't count; asked from the last one on)" */
  static void strikesOfStrikes() {
    FirstSill x = Check.street(TWO);
    x.track(0, 0, 11);
    for (int i = 1; i < 24; i++) x.strike(i - 1);
    Check.due("by none", x.known(0), true);
    Check.due("by none", x.tales(0), 5);
    for (int n = 1; n <= 24; n++) {
      x.known(n);
      Check.due("each strikes the one ahead: by " + n, x.tales(0), n % 2 == 1 ? 2 : 5);
    }
    x.known(-1);
    Check.due("by all 24", x.tales(0), 5);
    // two strike one; one of these is struck, then both
    x = Check.street(TWO);
    x.track(0, 0, 11);
    x.strike(0);
    x.strike(0);
    x.strike(1);
    x.strike(2);
    int[] due = {5, 2, 5, 5, 5, 2};
    for (int n = 0; n <= 5; n++) {
      x.known(n);
      Check.due("two strike one: by " + n, x.tales(0), due[n]);
    }
    // the one that strikes a STRIKE is struck: asked from the last one on
    x = Check.street(TWO);
    x.track(0, 0, 11);
    x.strike(0);
    x.strike(1);
    x.strike(2);
    x.strike(1);
    due = new int[] {5, 2, 5, 2, 5, 2};
    for (int n = 0; n <= 5; n++) {
      x.known(n);
      Check.due("from the last one on: by " + n, x.tales(0), due[n]);
    }
    // a STRIKE strikes one TRACK, not another one like it
    x = Check.street(TWO);
    x.track(0, 0, 11);
    x.track(0, 0, 11);
    x.strike(1);
    Check.due("one is left", x.tales(0), 2);
    x.strike(0);
    Check.due("none is left", x.tales(0), 5);
  }

  // ---- "TALES of a DARK one: rows (no HOUSE twice; also such whose last HOUSES he doesn't come to) ..; in the order of BEST."

  static void talesOfAll() {
    int[] due = {1, 2, 5, 16, 65, 326, 1957};
    for (int houses = 0; houses <= 6; houses++) {
      StringBuilder text = new StringBuilder("dark k 0 0;dark l 99 9;law walk 240;law cat 1000;");
      for (int h = 0; h < houses; h++) text.append("house ").append((char) ('a' + h)).append(" 1 1;");
      FirstSill x = Check.street(text.toString());
      for (int d = 0; d < 2; d++) {
        Check.due("all rows of " + houses, x.tales(d), due[houses]);
        Check.due("the first one is empty", x.tale(d, 0, 0), -2);
        for (int i = 0; i < houses; i++) {
          Check.due("the last one", x.tale(d, due[houses] - 1, i), houses - 1 - i);
          if (i < houses) Check.due("the longest from 0 on", x.tale(d, houses, i), i);
        }
        Check.due("no more in the last one", x.tale(d, due[houses] - 1, houses), -2);
        Check.due("no tale behind it", x.tale(d, due[houses], 0), -3);
      }
      for (int d : new int[] {LOW, -1, 2, 3, HIGH}) Check.due("tales(" + d + ")", x.tales(d), -1);
    }
    FirstSill x = Check.street("house a 1 1;house b 1 1;dark k 0 0;");
    int[][] rows = {{}, {0}, {0, 1}, {1}, {1, 0}};
    for (int k = 0; k < 5; k++) {
      for (int i = 0; i < rows[k].length; i++) Check.due("tale(0, " + k + ", " + i + ")", x.tale(0, k, i), rows[k][i]);
      Check.due("no more in tale " + k, x.tale(0, k, rows[k].length), -2);
    }
    Check.due("no DARK one", Check.street("house a 1 1;").tales(0), -1);
    Check.due("a new object", new FirstSill().tales(0), -1);
  }

  /** "-2: it has no so many; -3: there are no so many; NONE: no such ones"; NONE goes first. */
  static void tale() {
    FirstSill x = Check.street(TWO);
    x.track(0, 0, 11);
    Check.due("a", x.tale(0, 0, 0), 0);
    Check.due("a b", x.tale(0, 1, 0) * 10 + x.tale(0, 1, 1), 1);
    for (int i : new int[] {1, 2, 6, 7, 10, 21, HIGH}) Check.due("tale(0, 0, " + i + ")", x.tale(0, 0, i), -2);
    for (int i : new int[] {2, 3, 6, 7, 10, 21, HIGH}) Check.due("tale(0, 1, " + i + ")", x.tale(0, 1, i), -2);
    for (int k : new int[] {2, 3, 4, 5, 1957, HIGH}) {
      Check.due("tale(0, " + k + ", 0)", x.tale(0, k, 0), -3);
      Check.due("tale(0, " + k + ", most)", x.tale(0, k, HIGH), -3);
      Check.due("tale(0, " + k + ", -1)", x.tale(0, k, -1), -1);
    }
    for (int k : new int[] {LOW, -1}) for (int i : new int[] {-1, 0, 9}) Check.due("tale(0, " + k + ", " + i + ")", x.tale(0, k, i), -1);
    for (int i : new int[] {LOW, -1}) Check.due("tale(0, 0, " + i + ")", x.tale(0, 0, i), -1);
    for (int d : new int[] {LOW, -1, 2, 3, HIGH}) for (int k : new int[] {-1, 0, 99}) Check.due("tale(" + d + ")", x.tale(d, k, 0), -1);
    x.track(0, 0, 12);
    Check.due("there are none: tale(0, 0, 0)", x.tale(0, 0, 0), -3);
    Check.due("there are none: tale(0, -1, 0)", x.tale(0, -1, 0), -1);
    Check.due("of l there are five", x.tale(1, 4, 0), 1);
    Check.due("no sixth", x.tale(1, 5, 0), -3);
  }

  /** tale() goes by the same KNOWN ones as tales(). */
  static void taleByWhatIsKnown() {
    FirstSill x = Check.street(TWO);
    x.track(0, 0, 11);
    x.strike(0);
    x.track(0, 1, 21);
    x.strike(2);
    // known by 1: a, a b; by 2: all five; by 3: b, b a; by 4: all five
    int[][] first = {{-2, 0, 0, 1, 1}, {0, 0}, {-2, 0, 0, 1, 1}, {1, 1}, {-2, 0, 0, 1, 1}};
    for (int n = 0; n <= 4; n++) {
      x.known(n);
      Check.due("tales by " + n, x.tales(0), first[n].length);
      for (int k = 0; k < first[n].length; k++) Check.due("tale " + k + " by " + n, x.tale(0, k, 0), first[n][k]);
      Check.due("no more by " + n, x.tale(0, first[n].length, 0), -3);
    }
    x.known(-1);
    Check.due("by all: the empty one", x.tale(0, 0, 0), -2);
    Check.due("by all: five", x.tale(0, 4, 0), 1);
    Check.due("by all: no sixth", x.tale(0, 5, 0), -3);
  }

  /** TRACKS of each DARK one, STRIKES between them at each number. */
  static void tracksOfEach() {
    for (int d = 0; d < 3; d++) {
      for (int strikes = 0; strikes < 5; strikes++) {
        FirstSill x = Check.street("house a 10 5;house b 10 6;dark k 9 2;dark l 8 2;dark m 7 2;");
        x.track(d, 0, 240);
        x.strike(0);
        for (int i = 0; i < strikes; i++) x.strike(0);
        x.track(d, 1, 2 + d);
        for (int e = 0; e < 3; e++) {
          Check.due("tales of " + e + ", tracks of " + d, x.tales(e), e == d ? 2 : 5);
          Check.due("the first tale of " + e + ", tracks of " + d, x.tale(e, 0, 0), e == d ? 1 : -2);
        }
        x.track((d + 1) % 3, 0, 1);
        Check.due("none of another one", x.tales((d + 1) % 3), 0);
        Check.due("two of his", x.tales(d), 2);
      }
    }
  }

  /** "as if he went alone without CATS (OUT, GLASSES as they are), by which all KNOWN ones of his are so" */
  static void talesByTracks() {
    for (int m = 10; m <= 12; m++) {
      FirstSill x = Check.street(TWO);
      x.track(0, 0, m);
      Check.due("a on " + m, x.tales(0), m == 11 ? 2 : 0);
      Check.due("it doesn't hold l", x.tales(1), 5);
    }
    // the first minute and the last one
    FirstSill x = Check.street("house a 0 5;dark k 0 1;");
    x.track(0, 0, 1);
    Check.due("on 1", x.tales(0), 1);
    x = Check.street("house a 0 5;dark k 0 1;law walk 239;");
    x.track(0, 0, 240);
    Check.due("on 240", x.tales(0), 1);
    x = Check.street("house a 0 5;dark k 0 1;law walk 240;");
    x.track(0, 0, 240);
    Check.due("he doesn't come", x.tales(0), 0);
    // he comes there, but doesn't DO it
    x = Check.street("house a 0 5;dark k 0 0;");
    x.track(0, 0, 1);
    Check.due("without COAL", x.tales(0), 0);
    x = Check.street("house a 0 5;dark k 0 1;law may 0;");
    x.track(0, 0, 1);
    Check.due("who may not", x.tales(0), 0);
    x = Check.street("house a 0 5 own;dark k 0 1;law cat 1000;");
    x.track(0, 0, 1);
    Check.due("without CATS", x.tales(0), 1);
    x.out(0, true);
    Check.due("it does itself", x.tales(0), 0);
    x.out(0, false);
    Check.due("in again", x.tales(0), 1);
    // alone: l, who is there first, doesn't matter, nor his own row
    x = Check.street("house a 10 5;house b 20 6;dark k 0 2;dark l 10 2;");
    x.send(1, 0);
    x.send(0, 1);
    x.track(0, 0, 11);
    Check.due("as if he went alone", x.tales(0), 2);
    // GLASSES as they are: b on 23, REFUSED on 21
    x = Check.street(TWO);
    x.track(0, 1, 23);
    Check.due("with a glass", x.tales(0), 1);
    x.glass(0, true);
    Check.due("REFUSED", x.tales(0), 0);
    x.glass(1, true);
    x.glass(0, false);
    Check.due("b's doesn't matter", x.tales(0), 1);
    // all of his, none twice: like ones are one, unlike ones of a HOUSE can't both be so
    x.track(0, 1, 23);
    Check.due("told twice", x.tales(0), 1);
    x.track(0, 0, 11);
    Check.due("and a", x.tales(0), 1);
    x.track(1, 0, 1);
    Check.due("l's don't hold k", x.tales(0), 1);
    Check.due("l can't", x.tales(1), 0);
    x.track(0, 0, 23);
    Check.due("a twice", x.tales(0), 0);
  }

  // ---- "Rows, GLASSES, OUT, a CLIMB by call can be undone, the latest first (20 at most)."

  static void twentyAtMost() {
    for (int changes : new int[] {0, 1, 19, 20, 21, 39, 40, 41, 60}) {
      FirstSill x = Check.street("house a 0 1;dark k 0 1;");
      for (int i = 0; i < changes; i++) x.glass(0, i % 2 == 0);
      int most = Math.min(changes, 20);
      Check.due(changes + " changes: count(6)", x.count(6), most);
      for (int left = most - 1; left >= 0; left--) {
        Check.due(changes + " changes: undo()", x.undo(), left);
        int done = changes - (most - left);
        Check.due(changes + " changes, " + left + " left: it is so", Check.look(x, 0, 4), done % 2);
        Check.due(changes + " changes: count(6)", x.count(6), left);
      }
      Check.due(changes + " changes: none", x.undo(), -1);
      Check.due(changes + " changes: none again", x.undo(), -1);
      Check.due(changes + " changes: count(6)", x.count(6), 0);
      Check.due(changes + " changes: as it was", Check.look(x, 0, 4), (changes - most) % 2);
    }
    // undone and changed again, over the 20
    FirstSill x = Check.street("house a 0 1;dark k 0 1;");
    for (int round = 0; round < 5; round++) {
      for (int i = 0; i < 15; i++) x.glass(0, Check.look(x, 0, 4) == 0);
      for (int i = 0; i < 7; i++) x.undo();
      Check.due("round " + round, x.count(6), Math.min(8 + 8 * round, 13));
    }
  }

  /** Each state differs from all others: of which one it is that is come back to. */
  static void whichIsUndone() {
    for (int changes = 1; changes <= 63; changes++) {
      FirstSill x = Check.street("house a 0 1;house b 0 1;house c 0 1;house d 0 1;house e 0 1;house f 0 1;dark k 0 1;");
      for (int i = 1; i <= changes; i++) {
        int h = Integer.numberOfTrailingZeros(i);
        x.glass(h, Check.look(x, h, 4) == 0);
      }
      for (int i = changes - 1; i >= Math.max(0, changes - 20); i--) {
        x.undo();
        int refused = 0;
        for (int h = 0; h < 6; h++) refused |= Check.look(x, h, 4) << h;
        Check.due("undone to " + i + " of " + changes, refused, i ^ i >> 1);
      }
      Check.due("no more of " + changes, x.undo(), -1);
    }
  }

  static void undoOfEachKind() {
    FirstSill x = Check.street("house a 0 5 by 2 own;house b 0 7;dark k 0 2;");
    Check.due("nothing", x.undo(), -1);
    x.send(0, 1);
    x.send(0, 0);
    Check.due("ahead of the climb", x.gain(), 7);
    Check.due("climb", x.climb(), 1);
    x.drop(0);
    x.glass(0, true);
    x.out(0, true);
    Check.due("six", x.count(6), 6);
    int[] gains = {2, 5, 12, 7, 7, 0};
    for (int i = 0; i < 6; i++) {
      Check.due("undo()", x.undo(), 5 - i);
      Check.due("gain behind it", x.gain(), gains[i]);
    }
    Check.due("NONE: none", x.undo(), -1);
    // what is no change by those calls can't be undone
    x.night();
    x.track(0, 0, 1);
    x.strike(0);
    x.known(0);
    x.keep();
    x.send(0, 9);
    x.drop(0);
    x.glass(0, false);
    x.out(1, true);
    x.climb();
    Check.due("none of these", x.count(6), 0);
    Check.due("none of these", x.undo(), -1);
  }

  /** A CLIMB is one of the 20, and puts the oldest one out. */
  static void aClimbOfTwenty() {
    FirstSill x = Check.street("house a 0 5 by 2;house b 0 7;dark k 0 2;");
    x.send(0, 1);
    x.send(0, 0);
    for (int i = 0; i < 18; i++) x.glass(0, i % 2 == 0);
    Check.due("20", x.count(6), 20);
    Check.due("climb", x.climb(), 1);
    Check.due("20 still", x.count(6), 20);
    for (int i = 19; i >= 0; i--) Check.due("undo()", x.undo(), i);
    Check.due("the first send is not undone", x.dark(0, 2), 1);
    Check.due("none", x.undo(), -1);
  }

  // ---- "An IMAGE keeps all but TRACKS, by how many it is KNOWN, the TAPE and the FAULT."

  static final String STREET = "house a 10 9 own;house b 30 7 by 40;house c 50 5 own;dark k 20 5;dark l 60 2;law cat 9;seed 5;";

  static void changeAll(FirstSill x) {
    x.send(0, 1);
    x.send(1, 2);
    x.drop(0);
    x.glass(0, !(Check.look(x, 0, 4) == 1));
    x.glass(2, !(Check.look(x, 2, 4) == 1));
    x.out(0, !(Check.look(x, 0, 5) == 1));
    x.climb();
    x.night();
    x.night();
  }

  static void backAsItWas() {
    for (int changes = 0; changes < 3; changes++) {
      FirstSill x = Check.street(STREET);
      FirstSill y = Check.street(STREET);
      for (int i = 0; i < changes; i++) {
        changeAll(x);
        changeAll(y);
      }
      int gain = y.gain();
      Check.due("keep: GAIN as planned", x.keep(), gain);
      changeAll(x);
      Check.due("back: GAIN as planned", x.back(), gain);
      // y has an IMAGE and nothing to undo too, but was never anything else
      y.keep();
      y.back();
      Check.same("all is as it was", Seen.of(x), Seen.of(y));
    }
  }

  static void imageOrNone() {
    FirstSill x = new FirstSill();
    Check.due("a new object", x.back(), -1);
    Check.due("of nothing", x.keep(), 0);
    Check.due("of nothing", x.back(), 0);
    Check.tell(x, STREET);
    Check.due("a TEXT: there is none", x.back(), -1);
    x.send(0, 0);
    x.keep();
    x.send(0, 1);
    Check.due("two to undo: keep changes nothing", x.count(6), 2);
    Check.tell(x, "!");
    Check.due("a FAULT: it is there", x.back(), 9);
    Check.due("one HOUSE", x.dark(0, 2), 1);
    Check.due("nothing to undo then", x.undo(), -1);
    x.send(0, 2);
    Check.due("one to undo", x.count(6), 1);
    Check.due("back again", x.back(), 9);
    Check.due("one HOUSE again", x.dark(0, 2), 1);
    x.drop(0);
    Check.due("in place of the one ahead", x.keep(), 0);
    x.send(0, 1);
    Check.due("the one ahead is gone", x.back(), 0);
    Check.due("no HOUSE", x.dark(0, 2), 0);
  }

  static void whatAnImageDoesNotKeep() {
    FirstSill x = Check.street(STREET);
    x.track(0, 0, 11);
    x.keep();
    x.track(0, 0, 11);
    x.strike(0);
    x.known(2);
    Check.tell(x, "seed 1;!");
    Check.feed(x, "seed 77;");
    x.back();
    Check.due("TRACKS", x.count(4), 3);
    Check.due("by how many", x.count(5), 2);
    Check.due("FAULT", x.fault(0), 1);
    Check.due("its place", x.fault(1), 7);
    Check.due("TAPE", x.text(21), -2);
    Check.due("TAPE", x.text(20), 1);
    // known by all when it is kept, by one when it is back
    x = Check.street(STREET);
    x.known(0);
    x.keep();
    x.known(-1);
    x.back();
    x.track(0, 0, 11);
    Check.due("by all", x.count(5), 1);
  }

  /** "(the latest NIGHT, its numbers, how many there were, too; ..)" */
  static void nightsOfAnImage() {
    FirstSill x = Check.street(STREET);
    x.keep();
    int[] on = new int[9];
    for (int i = 0; i < 9; i++) {
      x.night();
      on[i] = x.was(i % 3, 1);
    }
    x.back();
    Check.due("no NIGHT", x.was(0, 0), -4);
    Check.due("none", x.count(7), 0);
    for (int i = 0; i < 4; i++) {
      x.night();
      Check.due("the same numbers", x.was(i % 3, 1), on[i]);
    }
    x.keep();
    x.night();
    x.night();
    x.back();
    Check.due("the latest", x.was(0, 1), on[3]);
    Check.due("four", x.count(7), 4);
    for (int i = 4; i < 9; i++) {
      x.night();
      Check.due("the same numbers", x.was(i % 3, 1), on[i]);
      Check.due("how many", x.count(7), i + 1);
    }
  }

  // ---- Promise 40: "NONE for another what."

  static void count() {
    FirstSill x = Check.street("house a 0 1 own;house b 0 1 own;house c 0 1 own;house d 0 1 own;house e 0 1 own;house f 0 1 own;"
        + "dark k 0 0;dark l 0 0;dark m 0 0;law walk not 1" + Check.repeated("+1", 31) + ";");
    int[] least = {6, 3, 64, 0, 0, 0, 0, 0};
    for (int what = 0; what < 8; what++) Check.due("count(" + what + ")", x.count(what), least[what]);
    for (int h = 0; h < 6; h++) {
      x.out(h, true);
      Check.due("DONE", x.count(3), h + 1);
    }
    for (int i = 0; i < 20; i++) x.glass(0, i % 2 == 0);
    for (int i = 0; i < 30; i++) x.track(0, 0, 1);
    for (int i = 1; i <= 40; i++) {
      x.night();
      Check.due("NIGHTS", x.count(7), i);
    }
    int[] most = {6, 3, 64, 6, 24, 24, 20, 40};
    for (int what = 0; what < 8; what++) Check.due("count(" + what + ")", x.count(what), most[what]);
    x.known(0);
    Check.due("by none", x.count(5), 0);
    Check.due("there are 24", x.count(4), 24);
    for (int what : new int[] {LOW, -2, -1, 8, 9, HIGH}) Check.due("count(" + what + ")", x.count(what), -1);
    // DONE behind BY is DONE, in a NIGHT it is none as planned
    x = Check.street("house a 9 1 by 1;house b 9 1;dark k 0 1;law cat 1000;");
    x.send(0, 0);
    x.night();
    Check.due("DONE as planned", x.count(3), 1);
    Check.tell(x, "house a 9 1 by 1;");
    Check.due("NIGHTS since the TEXT", x.count(7), 0);
    Check.due("no KNOTS", x.count(2), 0);
  }

  public static void main(String[] args) {
    twentyFourTracks();
    noSuchTrack();
    known();
    strikesOfStrikes();
    talesOfAll();
    tale();
    taleByWhatIsKnown();
    tracksOfEach();
    talesByTracks();
    twentyAtMost();
    whichIsUndone();
    undoOfEachKind();
    aClimbOfTwenty();
    backAsItWas();
    imageOrNone();
    whatAnImageDoesNotKeep();
    nightsOfAnImage();
    count();
    Check.end();
  }
}
