/**
 * The edges that "==== 3." (but for the TRACKS) and promises 21 to 25, 28 to 30 and 36 name, sentence by sentence:
 * the last value that is allowed and the first that is not, the empty and the full. What is refused is in
 * RefusedTest once more.
 */
public final class BestEdgesTest {
  static final int LOW = Integer.MIN_VALUE;
  static final int HIGH = Integer.MAX_VALUE;

  static void chosenIs(FirstSill x, int n, int dark, int... row) {
    for (int k = 0; k < row.length; k++) Check.due("chosen(" + n + ", " + dark + ", " + k + ")", x.chosen(n, dark, k), row[k]);
    for (int k : new int[] {row.length, row.length + 1, 6, 7, 9, 10, 21, 22, 32, HIGH}) {
      if (k >= row.length) Check.due("chosen(" + n + ", " + dark + ", " + k + ")", x.chosen(n, dark, k), -2);
    }
  }

  // ---- "BEST by the first n DARK ones: rows of them, no HOUSE in two or twice (GLASSES, OUT as they are), without CATS"

  static void best() {
    FirstSill x = Check.street("house a 0 10;house b 0 20;house c 0 30;house d 0 40 own;dark k 0 1;dark l 0 1;dark m 0 1;law cat 1000;");
    int[] due = {0, 40, 70, 90};
    for (int n = 0; n <= 3; n++) Check.due("best(" + n + ")", x.best(n), due[n]);
    for (int n : new int[] {LOW, -2, -1, 4, 5, HIGH}) Check.due("best(" + n + ")", x.best(n), -1);
    x.out(3, true);
    due = new int[] {40, 70, 90, 100};
    for (int n = 0; n <= 3; n++) Check.due("OUT: best(" + n + ")", x.best(n), due[n]);
    x.glass(2, true);
    x.glass(3, true);
    due = new int[] {40, 60, 75, 85};
    for (int n = 0; n <= 3; n++) Check.due("REFUSED: best(" + n + ")", x.best(n), due[n]);
    Check.due("rows are as they were", x.dark(0, 2) + x.dark(1, 2) + x.dark(2, 2), 0);
    // no HOUSE in two or twice: two who have coal for all bring no more than one
    x = Check.street("house a 0 9;dark k 0 9;dark l 0 9;");
    Check.due("by one", x.best(1), 9);
    Check.due("by two", x.best(2), 9);
  }

  static void bestOfNone() {
    FirstSill x = Check.street("house a 0 9 own;house b 0 8;");
    Check.due("no dark one: best(0)", x.best(0), 0);
    Check.due("no dark one: best(1)", x.best(1), -1);
    Check.due("no dark one: many()", x.many(), -2);
    Check.due("no dark one: price(0)", x.price(0), 0);
    Check.due("no dark one: price(1)", x.price(1), 0);
    Check.due("no dark one: all(0)", x.all(0), 1);
    Check.due("no dark one: all(1)", x.all(1), 0);
    Check.due("no dark one: all(4)", x.all(4), -1);
    Check.due("no dark one: chosen(0, 0, 0)", x.chosen(0, 0, 0), -1);
    x.out(0, true);
    Check.due("OUT: best(0)", x.best(0), 9);
    Check.due("OUT: all(1)", x.all(1), 1);
    Check.due("OUT: all(3)", x.all(3), 0);
    Check.due("OUT: many()", x.many(), -2);
    Check.due("OUT: price(0)", x.price(0), 0);
    x = Check.street("dark k 0 9;dark l 0 9;");
    for (int n = 0; n <= 2; n++) Check.due("no house: best(" + n + ")", x.best(n), 0);
    Check.due("no house: best(3)", x.best(3), -1);
    Check.due("no house: many()", x.many(), 0);
    Check.due("no house: price(0)", x.price(0), -1);
    Check.due("no house: all(0)", x.all(0), 1);
    Check.due("no house: all(1)", x.all(1), -1);
    chosenIs(x, 1, 0);
    chosenIs(x, 2, 1);
  }

  // ---- "the greatest GAIN; of several the first: by DARK ones, HOUSE by HOUSE by numbers, a row that ends ahead of one that goes on"

  static void theFirstOfSeveral() {
    FirstSill x = Check.street("house a 0 0;house b 0 0;dark k 0 9;dark l 0 9;");
    chosenIs(x, 1, 0);
    chosenIs(x, 2, 0);
    chosenIs(x, 2, 1);
    x = Check.street("house a 0 5;house b 0 5;dark k 0 1;");
    chosenIs(x, 1, 0, 0);
    x = Check.street("house a 0 5;house b 0 5;dark k 0 2;");
    chosenIs(x, 1, 0, 0, 1);
    // a, b and b bring the same: a comes ahead of b; a and a, b: the one that ends
    x = Check.street("house a 0 0;house b 0 5;dark k 0 2;");
    chosenIs(x, 1, 0, 0, 1);
    x = Check.street("house a 0 5;house b 0 0;dark k 0 2;");
    chosenIs(x, 1, 0, 0);
    // but not if it costs the coal or comes too late
    x = Check.street("house a 0 0;house b 0 5;dark k 0 1;");
    chosenIs(x, 1, 0, 1);
    x = Check.street("house a 0 0;house b 0 5 by 2;dark k 0 2;");
    chosenIs(x, 1, 0, 1);
    x = Check.street("house a 0 0;house b 0 5 by 3;dark k 0 2;");
    chosenIs(x, 1, 0, 0, 1);
    // by DARK ones: k's row is the first that there can be
    x = Check.street("house a 0 5;house b 0 5;dark k 0 1;dark l 0 1;dark m 0 1;");
    chosenIs(x, 2, 0, 0);
    chosenIs(x, 2, 1, 1);
    chosenIs(x, 3, 0);
    chosenIs(x, 3, 1, 0);
    chosenIs(x, 3, 2, 1);
    x = Check.street("house a 0 5;house b 0 5;dark k 0 2;dark l 0 2;dark m 0 2;");
    chosenIs(x, 2, 0);
    chosenIs(x, 2, 1, 0, 1);
    chosenIs(x, 3, 0);
    chosenIs(x, 3, 1);
    chosenIs(x, 3, 2, 0, 1);
    // k can do one alone, which l could do as well, for more than his own
    x = Check.street("house a 0 5 by 60;house b 99 6;dark k 99 1;dark l 50 1;");
    Check.due("both", x.best(2), 11);
    chosenIs(x, 2, 0, 1);
    chosenIs(x, 2, 1, 0);
    // each can do his own alone
    x = Check.street("house a 0 5 by 1;house b 50 6 by 1;house c 99 7 by 1;dark k 99 9;dark l 0 9;dark m 50 9;");
    Check.due("all three", x.best(3), 18);
    chosenIs(x, 3, 0, 2);
    chosenIs(x, 3, 1, 0);
    chosenIs(x, 3, 2, 1);
    Check.due("without the last one", x.best(2), 12);
    chosenIs(x, 2, 1, 0);
    // by one more, a later one is BEST
    x = Check.street("house a 0 5;house b 0 6;dark k 0 1;");
    chosenIs(x, 1, 0, 1);
  }

  // ---- "not at all (the row ends), if that is above 240", in BEST, in ALL, in TALES

  static void theRowEnds() {
    // a is too far; b behind it in a row is not come to
    FirstSill x = Check.street("house a 99 9;house b 0 5;dark k 0 9;law walk far*3;");
    Check.due("b alone", x.best(1), 5);
    chosenIs(x, 1, 0, 1);
    Check.due("b", x.all(2), 1);
    Check.due("a", x.all(1), 0);
    Check.due("not both", x.many(), -2);
    x.track(0, 1, 1);
    Check.due("b; b and a", x.tales(0), 2);
    Check.due("b", x.tale(0, 0, 0) * 10 + x.tale(0, 0, 1), 8);
    Check.due("b and a", x.tale(0, 1, 0) * 10 + x.tale(0, 1, 1), 10);
    // a on 201, b on 461: that is 205 in a byte
    x = Check.street("house a 0 5;house b 0 7;dark k 0 9;law walk 200;law stay 60;");
    Check.due("one of them", x.best(1), 7);
    chosenIs(x, 1, 0, 1);
    Check.due("not both", x.all(3), 0);
    x.track(0, 1, 205);
    Check.due("not on 205", x.tales(0), 0);
    x.strike(0);
    x.track(0, 1, 201);
    Check.due("on 201: b; b and a", x.tales(0), 2);
    // a on 100, leaving on 160; b on 300, that is 44 in a byte
    x = Check.street("house a 0 5;house b 0 7;dark k 0 9;law walk 99+(minute>1)*41;law stay 60;");
    Check.due("one of them", x.best(1), 7);
    chosenIs(x, 1, 0, 1);
    Check.due("not both", x.all(3), 0);
    x.track(0, 1, 44);
    Check.due("not on 44", x.tales(0), 0);
    // a on 1, leaving on 61; b on 240 or on 241
    for (int walk : new int[] {179, 180}) {
      x = Check.street("house a 0 5;house b 0 7;dark k 0 9;law walk (minute>1)*" + walk + ";law stay 60;");
      Check.due("best, b on " + (61 + walk), x.best(1), walk == 179 ? 12 : 7);
      Check.due("all, b on " + (61 + walk), x.all(3), walk == 179 ? 1 : 0);
      Check.due("many, b on " + (61 + walk), x.many(), walk == 179 ? 1 : -2);
      x.track(0, 1, 240);
      Check.due("tales, b on " + (61 + walk), x.tales(0), walk == 179 ? 1 : 0);
    }
  }

  /** Laws by glasses and COAL, each row from its begin on. */
  static void lawsOfRows() {
    for (String law : new String[] {"glass*100+1", "(9-left)*100+1"}) {
      FirstSill x = Check.street("house a 0 1;house b 0 2 by 105;house c 0 4 by 2;dark k 0 9;dark l 0 9;law walk " + law + ";");
      Check.due("c on 2, b on 105", x.best(1), 6);
      chosenIs(x, 1, 0, 2, 1);
      Check.due("and a by l", x.best(2), 7);
      chosenIs(x, 2, 0, 0);
      chosenIs(x, 2, 1, 2, 1);
      x.track(0, 0, 105);
      Check.due("b a, b a c, c a, c a b", x.tales(0), 4);
      x.track(0, 2, 2);
      Check.due("c a, c a b", x.tales(0), 2);
    }
  }

  /** GLASSES as they are: who DID one that is REFUSED has had no glass. */
  static void rowsWithAGlassRefused() {
    FirstSill x = Check.street("house a 0 5;house b 0 7;house c 0 9;dark k 0 9;law walk 1+glass*240;law stay 1;");
    Check.due("each behind a glass is too late", x.best(1), 9);
    Check.due("not two", x.all(3), 0);
    x.glass(0, true);
    Check.due("half of 5, then one more", x.best(1), 11);
    chosenIs(x, 1, 0, 0, 2);
    Check.due("a, b", x.all(3), 1);
    Check.due("not b, c", x.all(6), 0);
    Check.due("not all", x.all(7), 0);
    x.track(0, 2, 3);
    Check.due("a, c; a, c, b", x.tales(0), 2);
    x.glass(1, true);
    Check.due("half of 5, half of 7, then c", x.best(1), 14);
    chosenIs(x, 1, 0, 0, 1, 2);
    Check.due("all", x.all(7), 1);
    Check.due("b, c; a, c too", x.tales(0), 4);
  }

  // ---- Promise 22: "The k-th HOUSE ..; -2: there are no so many; NONE: no such ones."

  static void chosen() {
    FirstSill x = Check.street("house a 0 1 by 11;house b 0 1 by 9;house c 0 1 by 7;house d 0 1 by 5;house e 0 1 by 3;house f 0 1 by 1;"
        + "dark k 0 9;dark l 9 0;dark m 9 0;");
    for (int n = 1; n <= 3; n++) {
      chosenIs(x, n, 0, 5, 4, 3, 2, 1, 0);
      for (int d = 1; d < n; d++) chosenIs(x, n, d);
      for (int d : new int[] {LOW, -1, n, n + 1, 3, HIGH}) Check.due("chosen(" + n + ", " + d + ", 0)", x.chosen(n, d, 0), -1);
      for (int k : new int[] {LOW, -1}) for (int d = 0; d < n; d++) Check.due("chosen(" + n + ", " + d + ", " + k + ")", x.chosen(n, d, k), -1);
    }
    for (int n : new int[] {LOW, -1, 0, 4, HIGH}) Check.due("chosen(" + n + ", 0, 0)", x.chosen(n, 0, 0), -1);
  }

  // ---- "MANY: the fewest DARK ones whose BEST is all WORTH (REFUSED ones by half, but for those that OUT does)"; "-2: not by all"

  static void many() {
    String three = "dark k 0 1;dark l 0 1;dark m 0 1;";
    String[] houses = {"house a 0 0;", "house a 0 1;", "house a 0 1;house b 0 1;", "house a 0 1;house b 0 1;house c 0 1;",
      "house a 0 1;house b 0 1;house c 0 1;house d 0 0;", "house a 0 1;house b 0 1;house c 0 1;house d 0 1;"};
    int[] due = {0, 1, 2, 3, 3, -2};
    for (int i = 0; i < due.length; i++) Check.due("many of " + houses[i], Check.street(houses[i] + three).many(), due[i]);
    FirstSill x = Check.street(houses[5] + three);
    x.glass(3, true);
    Check.due("half of 1 is 0", x.many(), 3);
    x = Check.street("house a 0 1;house b 0 1;house c 0 1;house d 0 2;" + three);
    x.glass(3, true);
    Check.due("half of 2 is 1", x.many(), -2);
    x = Check.street("house a 0 9 own;house b 0 9 own;" + three + "law may home=0 or worth=9;");
    Check.due("two", x.many(), 2);
    x.out(0, true);
    Check.due("one", x.many(), 1);
    x.out(1, true);
    Check.due("none", x.many(), 0);
    x.glass(0, true);
    x.glass(1, true);
    Check.due("REFUSED, but OUT does them", x.many(), 0);
    x.out(1, false);
    Check.due("the other one by half", x.many(), 1);
    // OUT, but may not: a DARK one does it by half
    x = Check.street("house a 0 9 own;" + three + "law may not home;");
    x.out(0, true);
    x.glass(0, true);
    Check.due("one, by half", x.many(), 1);
    // the first who can is the last one; nobody comes in time
    Check.due("the third", Check.street("house a 0 9;dark k 0 0;dark l 0 0;dark m 0 1;").many(), 3);
    Check.due("at BY", Check.street("house a 9 9 by 10;dark k 0 1;").many(), 1);
    Check.due("behind BY", Check.street("house a 9 9 by 9;dark k 0 1;").many(), -2);
    Check.due("no HOUSE, no DARK one", new FirstSill().many(), 0);
    Check.due("no WORTH, no DARK one", Check.street("house a 0 0;").many(), 0);
    Check.due("WORTH, no DARK one", Check.street("house a 0 1;").many(), -2);
    Check.due("cats don't count", Check.street("house a 9 9;dark k 0 1;law cat 1000;").many(), 1);
  }

  // ---- "PRICE of a HOUSE: the GAIN of BEST (all DARK ones) without it, less that of all others in BEST"

  static void price() {
    FirstSill x = Check.street("house a 0 5;house b 0 5;house c 0 5;dark k 0 1;dark l 0 1;");
    // of several BEST the first: k at a, l at b
    int[] due = {5, 5, 0};
    for (int h = 0; h < 3; h++) Check.due("price(" + h + ")", x.price(h), due[h]);
    for (int h : new int[] {LOW, -2, -1, 3, 4, HIGH}) Check.due("price(" + h + ")", x.price(h), -1);
    x.glass(1, true);
    // a and c whole; b by half has no part
    due = new int[] {2, 0, 2};
    for (int h = 0; h < 3; h++) Check.due("REFUSED: price(" + h + ")", x.price(h), due[h]);
    x = Check.street("house a 0 5;house b 0 5;house c 0 5;dark k 0 1;dark l 0 2;");
    for (int h = 0; h < 3; h++) Check.due("all are DONE: price(" + h + ")", x.price(h), 0);
    // all DARK ones, not the first ones; without CATS
    x = Check.street("house a 0 99;house b 0 98;dark k 0 0;dark l 0 0;dark m 0 1;law cat 1000;");
    Check.due("a keeps b from 98", x.price(0), 98);
    Check.due("b keeps none", x.price(1), 0);
    // below 0: a is on the way to b
    x = Check.street("house a 50 0;house b 90 99;dark k 0 1;law walk far*(far<60)+240*(far>=60);law may worth;");
    Check.due("below 0", x.price(0), -99);
    Check.due("b itself", x.price(1), 0);
    // OUT does it: no DARK one has time less
    x = Check.street("house a 0 50 own;house b 0 20;dark k 0 1;");
    x.out(0, true);
    Check.due("OUT", x.price(0), 0);
    Check.due("the other", x.price(1), 0);
    // DONE behind BY it brings nothing
    x = Check.street("house a 9 50 by 9;house b 9 20 by 10;dark k 0 1;");
    Check.due("behind BY", x.price(0), 0);
    Check.due("at BY", x.price(1), 0);
    x = Check.street("house a 9 50 by 10;house b 9 20 by 10;dark k 0 1;");
    Check.due("at BY", x.price(0), 20);
  }

  // ---- "ALL of some HOUSES: whether rows of all DARK ones (likewise) have each of them DONE at BY at the latest"

  static void all() {
    FirstSill x = Check.street("house a 0 0 by 1;house b 10 0 by 1;house c 20 0 by 1;house d 30 0 by 1 own;house e 5 0 by 5;house f 5 0 by 6;"
        + "dark k 0 1;dark l 10 1;dark m 20 1;");
    for (int set = 0; set < 16; set++) Check.due("each does his own, all(" + set + ")", x.all(set), set < 8 ? 1 : 0);
    Check.due("behind BY", x.all(16), 0);
    Check.due("at BY", x.all(32), 1);
    Check.due("k or l can do it", x.all(32 + 1), 1);
    Check.due("l or k can do it", x.all(32 + 2), 1);
    Check.due("m can't", x.all(32 + 3), 0);
    Check.due("all six", x.all(63), 0);
    for (int set : new int[] {64, 65, 128, 1 << 30, HIGH, -1, -64, LOW}) Check.due("all(" + set + ")", x.all(set), -1);
    x.out(3, true);
    for (int set = 0; set < 16; set++) Check.due("OUT, all(" + set + ")", x.all(set), 1);
    Check.due("of none", new FirstSill().all(0), 1);
    Check.due("of none: 1", new FirstSill().all(1), -1);
    // the glass of the first makes the second late, unless it is REFUSED
    x = Check.street("house a 0 0 by 1;house b 0 0 by 2;dark k 0 2;law cat 1000;");
    Check.due("late by the glass", x.all(3), 0);
    Check.due("each alone", x.all(1) + x.all(2), 2);
    x.glass(0, true);
    Check.due("REFUSED", x.all(3), 1);
    // COAL for two is not COAL for three
    x = Check.street("house a 0 0;house b 0 0;house c 0 0;dark k 0 2;");
    for (int set = 0; set < 8; set++) Check.due("two, all(" + set + ")", x.all(set), set < 7 ? 1 : 0);
    Check.due("all(8)", x.all(8), -1);
    x = Check.street("house a 0 0;house b 0 0;house c 0 0;dark k 0 2;dark l 0 1;");
    Check.due("two and one", x.all(7), 1);
    // all six by one
    x = Check.street("house a 0 0;house b 0 0;house c 0 0;house d 0 0;house e 0 0;house f 0 0;dark k 0 6;");
    Check.due("six", x.all(63), 1);
    x = Check.street("house a 0 0;house b 0 0;house c 0 0;house d 0 0;house e 0 0;house f 0 0;dark k 0 5;");
    Check.due("five", x.all(31), 1);
    Check.due("not six", x.all(63), 0);
  }

  // ---- "EXCHANGE: two PLACES with unlike HOUSES which .. would bring the greatest GAIN as planned, and more than it is now"

  static void exchangeIs(String told, FirstSill x, int... due) {
    for (int what = 0; what < 5; what++) {
      Check.due(told + ": exchange(" + what + ")", x.exchange(what), due.length == 0 ? -2 : due[what]);
    }
    for (int what : new int[] {LOW, -1, 5, 6, HIGH}) Check.due(told + ": exchange(" + what + ")", x.exchange(what), -1);
  }

  static void exchangeOfNone() {
    exchangeIs("a new object", new FirstSill());
    FirstSill x = Check.street("house a 0 5;house b 0 6;dark k 0 1;dark l 0 0;law cat 1000;");
    exchangeIs("empty rows", x);
    x.send(0, 0);
    exchangeIs("one PLACE", x);
    x.send(0, 0);
    exchangeIs("like HOUSES", x);
    x.send(0, 1);
    exchangeIs("one more", x, 6, 0, 0, 0, 2);
    // of each DARK one, of each two
    for (int d = 0; d < 3; d++) {
      for (int e = d; e < 3; e++) {
        x = Check.street("house a 0 0;house b 0 7;dark k 0 " + (d == 0 ? 1 : 0) + ";dark l 0 " + (d == 1 ? 1 : 0) + ";dark m 0 " + (d == 2 ? 1 : 0) + ";");
        x.send(d, 0);
        x.send(e, 1);
        exchangeIs("the first of " + d + " and one of " + e, x, 7, d, 0, e, d == e ? 1 : 0);
        x = Check.street("house a 0 0;house b 0 7;dark k 0 " + (e == 0 ? 1 : 0) + ";dark l 0 " + (e == 1 ? 1 : 0) + ";dark m 0 " + (e == 2 ? 1 : 0) + ";");
        if (d == e) continue;
        x.send(d, 1);
        x.send(e, 0);
        exchangeIs("the other way, " + d + " and " + e, x, 7, d, 0, e, 0);
      }
    }
    // GLASSES as they are: half of 10 now, 6 then; whole 4 now, half of 11 then
    x = Check.street("house a 0 10;house b 0 6;dark k 0 1;");
    Check.send(x, 0, 0, 1);
    exchangeIs("10 is more than 6", x);
    x.glass(0, true);
    exchangeIs("half of 10 is less than 6", x, 6, 0, 0, 0, 1);
    x = Check.street("house a 0 4;house b 0 11;house c 0 1 own;dark k 0 1;");
    Check.send(x, 0, 0, 1);
    x.out(2, true);
    exchangeIs("11 and 1", x, 12, 0, 0, 0, 1);
    x.glass(1, true);
    exchangeIs("half of 11 and 1", x, 6, 0, 0, 0, 1);
    x.glass(2, true);
    exchangeIs("1 by itself is whole", x, 6, 0, 0, 0, 1);
    // what is behind the end of a row is no PLACE, whatever was there
    x = Check.street("house a 0 9;house b 0 5;house c 0 7;dark k 0 1;dark l 0 1;");
    x.send(0, 1);
    exchangeIs("one PLACE, of the one that is less", x);
    x.send(0, 2);
    exchangeIs("two PLACES", x, 7, 0, 0, 0, 1);
    x.drop(0);
    exchangeIs("one was dropped", x);
    Check.send(x, 1, 0);
    x.drop(1);
    exchangeIs("one of another was dropped", x);
    x.send(0, 0);
    x.undo();
    exchangeIs("a send was undone", x);
    Check.tell(x, "house a 0 9;house b 0 5;house c 0 7;dark k 0 1;dark l 0 1;");
    x.send(0, 1);
    exchangeIs("a TEXT was told", x);
    x = Check.street("house a 0 5;house b 0 5;dark k 0 1;dark l 0 0;");
    Check.send(x, 0, 0, 1);
    exchangeIs("as much as now", x);
    x = Check.street("house a 0 5;house b 0 4;dark k 0 1;dark l 0 0;");
    Check.send(x, 0, 0, 1);
    exchangeIs("less than now", x);
    x = Check.street("house a 0 5;house b 0 6;dark k 0 1;");
    Check.send(x, 0, 0, 1);
    exchangeIs("one more than now", x, 6, 0, 0, 0, 1);
    x.glass(1, true);
    exchangeIs("half of it", x);
    x.undo();
    x.out(0, true);
    exchangeIs("a is not OWN", x, 6, 0, 0, 0, 1);
  }

  static void exchangeOfSeveral() {
    FirstSill x = Check.street("house a 0 0;house b 0 5;house c 0 5;house d 0 5;dark k 0 1;");
    Check.send(x, 0, 0, 1, 2, 3);
    exchangeIs("the least second PLACE", x, 5, 0, 0, 0, 1);
    x = Check.street("house a 0 0;house b 0 0;house c 0 5;house d 0 5;dark k 0 1;dark l 0 1;");
    Check.send(x, 0, 0, 2);
    Check.send(x, 1, 1, 3);
    exchangeIs("the least first PLACE", x, 5, 0, 0, 0, 1);
    x = Check.street("house a 0 0;house b 0 0;house c 0 5;house d 0 6;dark k 0 1;dark l 0 1;");
    Check.send(x, 0, 0, 2);
    Check.send(x, 1, 1, 3);
    exchangeIs("the greatest GAIN", x, 6, 0, 0, 1, 1);
    x = Check.street("house a 0 0;house b 0 0;house c 0 6;house d 0 5;dark k 0 0;dark l 0 1;");
    Check.send(x, 0, 0, 2);
    Check.send(x, 1, 1, 3);
    exchangeIs("k has no COAL", x, 6, 0, 1, 1, 0);
    // the last PLACES of full rows: only the ninth that he comes to may be DONE
    x = Check.street("house a 0 0;house b 0 5;house c 0 1;dark k 0 0;dark l 0 0;dark m 0 9;law walk 1;law stay 0;law may minute=10;");
    for (int d = 0; d < 2; d++) Check.send(x, d, 0, 0, 0, 0, 0, 0, 0, 0, 0);
    Check.send(x, 2, 0, 0, 0, 0, 0, 0, 0, 1, 2);
    Check.due("c now", x.gain(), 1);
    exchangeIs("the last two PLACES", x, 5, 2, 7, 2, 8);
    Check.due("climb", x.climb(), 1);
    Check.due("b now", x.gain(), 5);
    Check.due("the eighth", x.dark(2, 10), 2);
    Check.due("the ninth", x.dark(2, 11), 1);
    exchangeIs("no more", x);
    // the ninth of one and the ninth of another
    x = Check.street("house a 0 0;house b 0 5;house c 0 1;dark k 0 0;dark l 0 0;dark m 0 9;law walk 1;law stay 0;law may minute=10;");
    for (int d = 0; d < 3; d++) Check.send(x, d, 2, 2, 2, 2, 2, 2, 2, 2);
    x.send(0, 0);
    x.send(1, 1);
    x.send(2, 2);
    exchangeIs("the ninths", x, 5, 1, 8, 2, 8);
    x.drop(1);
    exchangeIs("what was dropped is no PLACE", x);
  }

  // ---- "CLIMB: EXCHANGES made one behind another till there is none"; "how many EXCHANGES (0: nothing to undo)"

  static void climb() {
    Check.due("a new object", new FirstSill().climb(), 0);
    FirstSill x = Check.street("house a 0 5;house b 0 5;dark k 0 1;");
    Check.due("empty rows", x.climb(), 0);
    Check.send(x, 0, 0, 1);
    Check.due("as much", x.climb(), 0);
    Check.due("0: nothing to undo", x.count(6), 2);
    Check.due("the send is undone", x.undo(), 1);
    Check.due("b has gone", x.dark(0, 2), 1);
    // BY 1, 3, 5, 7, 9, 11 and the other way round: f and a, e and b, d and c are exchanged
    x = Check.street("house a 0 1 by 1;house b 0 2 by 3;house c 0 4 by 5;house d 0 8 by 7;house e 0 16 by 9;house f 0 32 by 11;dark k 0 9;");
    Check.send(x, 0, 5, 4, 3, 2, 1, 0);
    int gain = x.gain();
    int exchanges = 0;
    FirstSill y = Check.street("house a 0 1 by 1;house b 0 2 by 3;house c 0 4 by 5;house d 0 8 by 7;house e 0 16 by 9;house f 0 32 by 11;dark k 0 9;");
    int[] row = {5, 4, 3, 2, 1, 0};
    Check.send(y, 0, row);
    // each EXCHANGE by hand, as it is told, and the rows sent anew
    while (y.exchange(0) != -2 && exchanges < 20) {
      int i = y.exchange(2);
      int j = y.exchange(4);
      int due = y.exchange(0);
      int house = row[i];
      row[i] = row[j];
      row[j] = house;
      for (int k = 0; k < 6; k++) y.drop(0);
      Check.send(y, 0, row);
      Check.due("the GAIN that was told", y.gain(), due);
      exchanges++;
    }
    Check.due("how many", x.climb(), exchanges);
    Check.due("they are some", exchanges > 1, true);
    for (int k = 0; k < 6; k++) Check.due("the rows", x.dark(0, 3 + k), row[k]);
    Check.due("one to undo for all", x.count(6), 7);
    Check.due("undone at once", x.undo(), 6);
    Check.due("as it was", x.gain(), gain);
    Check.due("till there is none", y.climb(), 0);
  }

  // ---- "REFUSAL: .. by the rows as they are: the greatest GAIN, of several the fewest, then the least bits"; "NONE for another what"

  static void refusal() {
    FirstSill x = Check.street("house a 0 0 by 1;house b 0 0 by 1;house c 0 0 by 1;house d 0 0 by 1;house e 0 0 by 1;house f 0 99 by 1;dark k 0 9;");
    Check.due("empty rows", x.refusal(0), 0);
    Check.due("none REFUSED", x.refusal(1), 0);
    Check.send(x, 0, 0, 1, 2, 3, 4, 5);
    Check.due("five for f", x.refusal(0), 99);
    Check.due("which", x.refusal(1), 31);
    for (int what : new int[] {LOW, -1, 2, 3, HIGH}) Check.due("refusal(" + what + ")", x.refusal(what), -1);
    for (int h = 0; h < 6; h++) Check.due("GLASSES as they were", Check.look(x, h, 4), 0);
    x = Check.street("house a 0 99 by 1;house b 0 0 by 1;house c 0 0 by 1;house d 0 0 by 1;house e 0 0 by 1;house f 0 0 by 1;dark k 0 9;");
    Check.send(x, 0, 5, 4, 3, 2, 1, 0);
    for (int h = 0; h < 6; h++) x.glass(h, true);
    Check.due("five for a", x.refusal(0), 99);
    Check.due("which, f too", x.refusal(1), 62);
    // as much: none; one more: one
    x = Check.street("house a 0 10;house b 0 5 by 2;dark k 0 2;");
    Check.send(x, 0, 0, 1);
    Check.due("half of 10 and 5 is as much as 10", x.refusal(0), 10);
    Check.due("the fewest", x.refusal(1), 0);
    x = Check.street("house a 0 10;house b 0 6 by 2;dark k 0 2;");
    Check.send(x, 0, 0, 1);
    Check.due("half of 10 and 6 is more", x.refusal(0), 11);
    Check.due("a", x.refusal(1), 1);
    // of as many the least bits: any of three would do
    x = Check.street("house a 0 0;house b 0 0;house c 0 0;house d 0 9 by 5;dark k 0 9;");
    Check.send(x, 0, 2, 1, 0, 3);
    Check.due("in time by one", x.refusal(0), 9);
    Check.due("the least bits", x.refusal(1), 1);
    x = Check.street("house a 0 0;house b 0 0;house c 0 0;house d 0 9 by 3;dark k 0 9;");
    Check.send(x, 0, 2, 1, 0, 3);
    Check.due("in time by two", x.refusal(0), 9);
    Check.due("the least bits of two", x.refusal(1), 3);
    // OUT as they are: what does itself has no part in it
    x = Check.street("house a 0 9 own;house b 0 4 by 1;dark k 0 2;");
    Check.send(x, 0, 0, 1);
    Check.due("half of 9 and 4 is less", x.refusal(0), 9);
    x.out(0, true);
    Check.due("OUT", x.refusal(0), 13);
    Check.due("none", x.refusal(1), 0);
    for (int what = 0; what < 2; what++) Check.due("no HOUSE", new FirstSill().refusal(what), 0);
  }

  // ---- "TRIED by the rows as they are, without CATS, what: .."; "NONE: no such ones (i 0 of 0, 1, 2, 5)"

  static void triedWhatAndI() {
    FirstSill x = Check.street("house a 0 1;house b 0 2;house c 0 4;house d 0 8;house e 0 16;house f 0 32;dark k 0 9;dark l 0 9;dark m 0 9;law cat 1000;");
    Check.send(x, 0, 0, 1);
    Check.send(x, 1, 2, 3);
    Check.send(x, 2, 4, 5);
    for (int what : new int[] {0, 1, 2, 5}) {
      Check.due("tried(" + what + ", 0)", x.tried(what, 0), 63);
      for (int i : new int[] {LOW, -1, 1, 2, HIGH}) Check.due("tried(" + what + ", " + i + ")", x.tried(what, i), -1);
    }
    for (int h = 0; h < 6; h++) Check.due("tried(3, " + h + ")", x.tried(3, h), 63 - (1 << h));
    for (int i : new int[] {LOW, -1, 6, 7, 32, HIGH}) Check.due("tried(3, " + i + ")", x.tried(3, i), -1);
    int[] without = {60, 51, 15};
    for (int d = 0; d < 3; d++) Check.due("tried(4, " + d + ")", x.tried(4, d), without[d]);
    for (int i : new int[] {LOW, -1, 3, 4, HIGH}) Check.due("tried(4, " + i + ")", x.tried(4, i), -1);
    for (int what : new int[] {LOW, -1, 6, 7, HIGH}) for (int i = 0; i < 2; i++) Check.due("tried(" + what + ", " + i + ")", x.tried(what, i), -1);
    Check.due("nothing has changed", x.gain(), 63);
    // no HOUSE, no DARK one
    x = Check.street("dark k 0 1;");
    Check.due("no HOUSE", x.tried(3, 0), -1);
    Check.due("one DARK one", x.tried(4, 0), 0);
    x = Check.street("house a 0 1;");
    Check.due("one HOUSE", x.tried(3, 0), 0);
    Check.due("no DARK one", x.tried(4, 0), -1);
    for (int what : new int[] {0, 1, 2, 5}) Check.due("none: tried(" + what + ", 0)", new FirstSill().tried(what, 0), 0);
  }

  /** Rows of nine: the last of them counts in all that is tried, exchanged and undone. */
  static void rowsOfNine() {
    // only the ninth that he comes to may be DONE
    String street = "house a 0 0;house b 0 5;house c 0 8;dark k 0 1;dark l 0 1;dark m 0 1;law walk 1;law stay 0;law may minute=10;";
    for (int d = 0; d < 3; d++) {
      FirstSill x = Check.street(street);
      Check.send(x, d, 0, 0, 0, 0, 0, 0, 0, 2, 1);
      Check.due("now", x.gain(), 5);
      for (int what : new int[] {0, 1}) Check.due("tried(" + what + ")", x.tried(what, 0), 5);
      Check.due("all MAY: the first takes his coal", x.tried(5, 0), 0);
      Check.due("c isn't there: b is the eighth", x.tried(3, 2), 0);
      Check.due("he isn't there", x.tried(4, d), 0);
      Check.due("others aren't there", x.tried(4, (d + 1) % 3), 5);
      Check.due("refusal", x.refusal(0), 5);
      exchangeIs("the eighth and the ninth", x, 8, d, 7, d, 8);
      x.keep();
      Check.due("climb", x.climb(), 1);
      Check.due("gain of the climb", x.gain(), 8);
      Check.due("undo", x.undo(), 9);
      Check.due("as it was", x.gain(), 5);
      x.climb();
      for (int i = 0; i < 9; i++) x.drop(d);
      Check.send(x, d, 1, 1, 1, 1, 1, 1, 2, 0, 0);
      Check.due("another row", x.gain(), 0);
      Check.due("back", x.back(), 5);
      for (int i = 0; i < 9; i++) Check.due("the " + i + "th", x.dark(d, 3 + i), i < 7 ? 0 : 9 - i);
      for (int i = 0; i < 9; i++) x.drop(d);
      Check.send(x, d, 1, 1, 1, 1, 1, 1, 2, 0, 0);
      for (int i = 0; i < 18; i++) x.undo();
      for (int i = 0; i < 9; i++) Check.due("undone, the " + i + "th", x.dark(d, 3 + i), i < 7 ? 0 : 9 - i);
    }
  }

  /** All six GLASSES, all six COALS. */
  static void triedWithSix() {
    FirstSill x = Check.street("house a 0 1 by 1;house b 0 2 by 1;house c 0 4 by 1;house d 0 8 by 1;house e 0 16 by 1;house f 0 32 by 1;dark k 0 6;");
    Check.send(x, 0, 5, 4, 3, 2, 1, 0);
    Check.due("now", x.gain(), 32);
    Check.due("all six REFUSED", x.tried(0, 0), 63);
    x = Check.street("house a 0 1;house b 0 2;house c 0 4;house d 0 8;house e 0 16;house f 0 32;dark k 0 1;law may glass<6 and left=1;");
    Check.send(x, 0, 5, 4, 3, 2, 1, 0);
    Check.due("now", x.gain(), 32);
    Check.due("COAL is never less", x.tried(1, 0), 63);
  }

  /** "0 all GLASSES are REFUSED (WORTH whole), 1 COAL is never less (who has none has none still)". */
  static void triedGlassesAndCoal() {
    FirstSill x = Check.street("house a 0 9 by 1;house b 0 7 by 1;house c 0 5 by 1;dark k 0 3;dark l 0 0;");
    Check.send(x, 0, 0, 1, 2);
    Check.send(x, 1, 0, 1, 2);
    Check.due("now", x.gain(), 9);
    Check.due("all REFUSED, whole", x.tried(0, 0), 21);
    x.glass(0, true);
    Check.due("half and whole", x.gain(), 11);
    Check.due("all REFUSED, whole, those that are REFUSED too", x.tried(0, 0), 21);
    Check.due("still REFUSED", Check.look(x, 0, 4), 1);
    Check.due("b's is not", Check.look(x, 1, 4), 0);
    x = Check.street("house a 0 1;house b 0 2;house c 0 4;house d 0 8;house e 0 16;house f 0 32;dark k 0 1;dark l 0 0;law stay 0;law may left;");
    Check.send(x, 1, 0, 1, 2, 3, 4, 5);
    Check.due("who has none has none still", x.tried(1, 0), 0);
    Check.send(x, 0, 0, 1, 2, 3, 4, 5);
    Check.due("one", x.gain(), 1);
    Check.due("never less than one", x.tried(1, 0), 63);
    Check.due("left is one still", Check.look(x, 0, 1), 1);
    Check.due("coal as planned", x.after(0, 2), 0);
    x.glass(0, true);
    x.glass(5, true);
    Check.due("halves stay", x.tried(1, 0), 0 + 2 + 4 + 8 + 16 + 16);
  }

  /** "2 no place is far (0) nor up, 3 HOUSE i isn't there (rows go by it), 4 DARK one i isn't there, 5 all MAY". */
  static void triedOthers() {
    FirstSill x = Check.street("house a 99 9 by 3;house b 0 7 by 5;dark k 0 3;dark l 99 3;law walk far+up*50+2;");
    Check.send(x, 0, 0, 1);
    Check.due("now", x.gain(), 0);
    Check.due("near: a on 3, b on 7", x.tried(2, 0), 9);
    x.glass(0, true);
    Check.due("near: a on 3, b on 5, half", x.tried(2, 0), 11);
    // rows go by it: from where he was ahead of it
    x = Check.street("house a 50 9;house b 10 8 by 11;house c 12 7 by 15;dark k 0 3;");
    Check.send(x, 0, 1, 0, 2, 0, 0);
    Check.due("now: b, a", x.gain(), 17);
    Check.due("without a: b on 11, c on 15", x.tried(3, 0), 15);
    Check.due("the row is as it was", x.dark(0, 2), 5);
    Check.due("without c", x.tried(3, 2), 17);
    x = Check.street("house a 0 9 own;house b 0 8;dark k 0 1;");
    x.out(0, true);
    Check.send(x, 0, 0, 1);
    Check.due("one OUT that isn't there", x.tried(3, 0), 8);
    Check.due("still OUT", Check.look(x, 0, 5), 1);
    x = Check.street("house a 0 1 own;house b 0 2 own;house c 0 4 own;house d 0 8 own;house e 0 16 own;house f 0 32 own;");
    for (int h = 0; h < 6; h++) x.out(h, true);
    for (int h = 0; h < 6; h++) Check.due("all OUT, without " + h, x.tried(3, h), 63 - (1 << h));
    Check.due("all OUT still", x.gain(), 63);
    // who isn't there leaves it to another one
    x = Check.street("house a 9 9;dark k 9 3;dark l 0 3;");
    x.send(0, 0);
    x.send(1, 0);
    Check.due("l instead of k", x.tried(4, 0), 9);
    Check.due("k without l", x.tried(4, 1), 9);
    Check.due("by k as planned", x.done(0, 0), 0);
    Check.due("rows as they were", x.dark(0, 2) + x.dark(1, 2), 2);
    // all MAY, those who are OUT too, whatever the law says
    for (String e : new String[] {"0", "0-1", "1/0", "not 1"}) {
      x = Check.street("house a 0 9 own;house b 0 8;dark k 0 1;dark l 0 0;law may " + e + ";");
      x.out(0, true);
      x.send(0, 1);
      x.send(1, 0);
      Check.due("none may", x.gain(), 0);
      Check.due("all MAY", x.tried(5, 0), 17);
      x.glass(0, true);
      x.glass(1, true);
      Check.due("all MAY, half of b", x.tried(5, 0), 13);
    }
  }

  public static void main(String[] args) {
    best();
    bestOfNone();
    theFirstOfSeveral();
    theRowEnds();
    lawsOfRows();
    rowsWithAGlassRefused();
    chosen();
    many();
    price();
    all();
    exchangeOfNone();
    exchangeOfSeveral();
    climb();
    refusal();
    triedWhatAndI();
    rowsOfNine();
    triedWithSix();
    triedGlassesAndCoal();
    triedOthers();
    Check.end();
  }
}
