/** Promises 21 to 25 and 28 to 30, 36: the best rows, what a house would pay, and the rows changed for more. */
public final class BestTest {
  static void chosenIs(FirstSill x, int n, int dark, int... row) {
    for (int k = 0; k < row.length; k++) Check.due("chosen(" + n + ", " + dark + ", " + k + ")", x.chosen(n, dark, k), row[k]);
    Check.due("chosen(" + n + ", " + dark + ", " + row.length + ")", x.chosen(n, dark, row.length), -2);
  }

  static void best() {
    // k can do one house, l one, m none: 30 for c, 20 for b, 10 for a
    FirstSill x = Check.street("house a 10 10;house b 20 20;house c 30 30;dark k 0 1;dark l 0 1;dark m 0 0;");
    int[] best = {0, 30, 50, 50};
    for (int n = 0; n <= 3; n++) Check.due("best(" + n + ")", x.best(n), best[n]);
    Check.due("best(4)", x.best(4), -1);
    Check.due("best(-1)", x.best(-1), -1);
    chosenIs(x, 1, 0, 2);
    // of several the first: k does b, as that is ahead of c
    chosenIs(x, 3, 0, 1);
    chosenIs(x, 3, 1, 2);
    chosenIs(x, 3, 2);
    Check.due("chosen(3, 3, 0)", x.chosen(3, 3, 0), -1);
    Check.due("chosen(2, 2, 0)", x.chosen(2, 2, 0), -1);
    Check.due("chosen(0, 0, 0)", x.chosen(0, 0, 0), -1);
    Check.due("chosen(4, 0, 0)", x.chosen(4, 0, 0), -1);
    Check.due("chosen(-1, 0, 0)", x.chosen(-1, 0, 0), -1);
    Check.due("chosen(3, -1, 0)", x.chosen(3, -1, 0), -1);
    Check.due("chosen(3, 0, -1)", x.chosen(3, 0, -1), -1);
    Check.due("chosen(3, 0, most)", x.chosen(3, 0, Integer.MAX_VALUE), -2);
    Check.due("many, a is left", x.many(), -2);
    // what is planned doesn't matter
    Check.send(x, 0, 0);
    Check.due("best(2) with rows", x.best(2), 50);
    Check.due("and the rows stay", x.dark(0, 2), 1);
    // a glass refused halves b: c and half of b, or c and a
    x.glass(1, true);
    Check.due("best with a refused glass", x.best(2), 40);
    chosenIs(x, 2, 0, 0);
    chosenIs(x, 2, 1, 2);
    x.undo();
    Check.due("best when that is undone", x.best(2), 50);
  }

  static void firstOfSeveral() {
    // no order of a and b is better, and c is worth nothing: the least, the shortest
    FirstSill x = Check.street("house a 1 5;house b 2 5;house c 3 0;dark k 0 3;dark l 0 3;");
    chosenIs(x, 1, 0, 0, 1);
    // k does all, as a row with both is behind none that brings the same
    Check.due("best(2)", x.best(2), 10);
    chosenIs(x, 2, 0);
    chosenIs(x, 2, 1, 0, 1);
    // the order matters by BY: b first
    x = Check.street("house a 4 5;house b 2 5 by 3;dark k 0 3;");
    Check.due("best(1)", x.best(1), 10);
    chosenIs(x, 1, 0, 1, 0);
    // by way of a house where nothing is done: b is near from a alone
    x = Check.street("house a 50 0;house b 90 7;dark k 0 1;law walk far*(far<60)+240*(far>=60);law may worth;");
    Check.due("by way of a", x.best(1), 7);
    chosenIs(x, 1, 0, 0, 1);
  }

  /** Only the very last row of all does each house in time. */
  static void sixHouses() {
    FirstSill x = Check.street("house a 0 1 by 11;house b 0 2 by 9;house c 0 4 by 7;house d 0 8 by 5;"
        + "house e 0 16 by 3;house f 0 32 by 1;dark j 99 0;dark k 99 0;dark l 0 6;");
    Check.due("best(2)", x.best(2), 0);
    Check.due("best(3)", x.best(3), 63);
    chosenIs(x, 3, 1);
    chosenIs(x, 3, 2, 5, 4, 3, 2, 1, 0);
    Check.due("many()", x.many(), 3);
    Check.due("all(63)", x.all(63), 1);
    Check.due("price of a", x.price(0), 0);
    Check.due("tales of six", x.tales(2), 1957);
    for (int i = 0; i < 6; i++) Check.due("the last tale", x.tale(2, 1956, i), 5 - i);
    Check.due("no more", x.tale(2, 1956, 6), -2);
    Check.due("no tale behind it", x.tale(2, 1957, 0), -3);
  }

  static void many() {
    FirstSill x = Check.street("house a 0 9 own;house b 0 7;dark k 0 1;dark l 0 1;");
    Check.due("both", x.many(), 2);
    x.glass(1, true);
    Check.due("both, b by half", x.many(), 2);
    Check.due("best(2)", x.best(2), 12);
    x.out(0, true);
    Check.due("one, a does itself", x.many(), 1);
    x.glass(0, true);
    Check.due("a whole by itself", x.many(), 1);
    Check.due("best(1)", x.best(1), 12);
    x = Check.street("house a 0 0;house b 99 0;dark k 0 1;");
    Check.due("nothing worth", x.many(), 0);
    x = Check.street("house a 0 1;dark k 0 0;");
    Check.due("one worth, no coal", x.many(), -2);
    x.glass(0, true);
    Check.due("half of 1 is 0", x.many(), 0);
    x = Check.street("house a 0 8 own;dark k 0 1;law may not home;");
    x.out(0, true);
    x.glass(0, true);
    Check.due("out, but may not: by half", x.many(), 1);
  }

  static void price() {
    // one can do one of three: c pays what b is then kept from
    FirstSill x = Check.street("house a 0 10;house b 0 20;house c 0 30;dark k 0 1;");
    Check.due("price of a", x.price(0), 0);
    Check.due("price of b", x.price(1), 0);
    Check.due("price of c", x.price(2), 20);
    Check.due("price(3)", x.price(3), -1);
    Check.due("price(-1)", x.price(-1), -1);
    x.glass(1, true);
    x.glass(2, true);
    // 10, 10, 15
    Check.due("price of c by half", x.price(2), 10);
    x = Check.street("house a 0 10 own;house b 0 20;dark k 0 1;");
    x.out(0, true);
    Check.due("price of one out", x.price(0), 0);
    Check.due("price with another one out", x.price(1), 0);
    // without the house on the way b is not done
    x = Check.street("house a 50 0 own;house b 90 7;dark k 0 1;law walk far*(far<60)+240*(far>=60);law may worth;");
    Check.due("price of the way", x.price(0), -7);
    // done, but behind BY: it has no part in GAIN
    x = Check.street("house a 9 5 by 2;house b 9 7;dark k 0 2;");
    Check.due("price of one too late", x.price(0), 0);
  }

  static void all() {
    FirstSill x = Check.street("house a 10 0;house b 20 0 by 21;house c 30 0 own;dark k 0 2;");
    Check.due("all(0)", x.all(0), 1);
    Check.due("all(1)", x.all(1), 1);
    Check.due("all(2)", x.all(2), 1);
    Check.due("all(3), b first", x.all(3), 1);
    Check.due("all(5)", x.all(5), 1);
    Check.due("all(7)", x.all(7), 0);
    Check.due("all(8)", x.all(8), -1);
    Check.due("all(-1)", x.all(-1), -1);
    x.out(2, true);
    Check.due("all(7), c itself", x.all(7), 1);
    x = Check.street("house a 10 0;house b 20 0 by 20;dark k 0 2;dark l 99 1;");
    Check.due("b is too late by any", x.all(2), 0);
    Check.due("and with a", x.all(3), 0);
    x = Check.street("house a 0 0 by 1;house b 99 0 by 1;dark k 0 2;dark l 99 1;");
    Check.due("each one", x.all(3), 1);
    Check.due("no house there", new FirstSill().all(1), -1);
  }

  static void exchangeIs(FirstSill x, int... due) {
    for (int what = 0; what < 5; what++) Check.due("exchange(" + what + ")", x.exchange(what), due[what]);
  }

  static void exchange() {
    FirstSill x = Check.street("house a 0 5 by 3;house b 9 7;dark d 0 2;");
    for (int what = 0; what < 5; what++) Check.due("exchange(" + what + ") of nothing", x.exchange(what), -2);
    Check.due("exchange(5)", x.exchange(5), -1);
    Check.due("exchange(-1)", x.exchange(-1), -1);
    Check.send(x, 0, 1, 0);
    exchangeIs(x, 12, 0, 0, 0, 1);
    Check.due("nothing is changed", x.dark(0, 3), 1);
    // between two rows
    x = Check.street("house a 0 5 by 3;house b 90 7 by 3;dark d 0 2;dark l 90 2;");
    Check.send(x, 0, 1);
    Check.send(x, 1, 0);
    exchangeIs(x, 12, 0, 0, 1, 0);
    // like houses: no exchange of the two would change anything
    Check.send(x, 0, 1);
    exchangeIs(x, 12, 0, 0, 1, 0);
    // only more than now counts
    x = Check.street("house a 0 5;house b 0 5;dark d 0 2;");
    Check.send(x, 0, 1, 0);
    exchangeIs(x, -2, -2, -2, -2, -2);
    // of several with the same the least first PLACE, then the least second one: one house of three can be done
    x = Check.street("house a 0 1;house b 0 9;house c 0 9;dark d 0 1;");
    Check.send(x, 0, 0, 1, 2);
    exchangeIs(x, 9, 0, 0, 0, 1);
    x = Check.street("house a 0 1;house b 0 9;house c 0 8;dark d 0 1;");
    Check.send(x, 0, 0, 2, 1);
    exchangeIs(x, 9, 0, 0, 0, 2);
  }

  static void climb() {
    FirstSill x = Check.street("house a 0 5 by 3;house b 9 7;dark d 0 2;");
    Check.due("climb of nothing", x.climb(), 0);
    Check.due("nothing to undo", x.count(6), 0);
    Check.send(x, 0, 1, 0);
    Check.due("climb", x.climb(), 1);
    Check.due("gain", x.gain(), 12);
    Check.due("rows", x.dark(0, 3) * 10 + x.dark(0, 4), 1);
    Check.due("one to undo for it", x.count(6), 3);
    Check.due("climb again", x.climb(), 0);
    Check.due("undo", x.undo(), 2);
    Check.due("rows as they were", x.dark(0, 3) * 10 + x.dark(0, 4), 10);
    // each alone: c, b, a on minutes with BY 1, 3, 5
    x = Check.street("house a 0 1 by 1;house b 0 2 by 3;house c 0 4 by 5;dark d 0 3;law stay 2;");
    Check.send(x, 0, 2, 1, 0);
    Check.due("ahead", x.gain(), 6);
    Check.due("one exchange is enough", x.climb(), 1);
    Check.due("all", x.gain(), 7);
    x = Check.street("house a 0 1 by 1;house b 0 2 by 3;house c 0 4 by 5;dark d 0 3;law stay 2;");
    Check.send(x, 0, 1, 2, 0);
    // b, a, c is not more; a, c, b brings 5, c, b, a 6: b, c, a brings 6 now
    Check.due("now", x.gain(), 6);
    Check.due("no exchange of two brings more", x.climb(), 0);
    x = Check.street("house a 0 9 by 1;house b 20 9 by 1;house c 0 1;house d 0 1;dark k 0 1;dark l 20 1;");
    Check.send(x, 0, 2, 0);
    Check.send(x, 1, 3, 1);
    Check.due("ahead", x.gain(), 2);
    Check.due("two exchanges, one behind another", x.climb(), 2);
    Check.due("gain", x.gain(), 18);
    Check.due("undone at once", x.undo(), 4);
    Check.due("gain as it was", x.gain(), 2);
  }

  static void refusal() {
    FirstSill x = Check.street("house a 0 9;house b 9 20 by 10;dark k 0 2;");
    Check.send(x, 0, 0, 1);
    Check.due("late by the glass", x.gain(), 9);
    Check.due("half of a and b", x.refusal(0), 24);
    Check.due("a's glass", x.refusal(1), 1);
    Check.due("nothing is refused", x.look(0, 4), 0);
    Check.due("refusal(2)", x.refusal(2), -1);
    Check.due("refusal(-1)", x.refusal(-1), -1);
    // what is refused now doesn't matter; the fewest, though halves of 0 and 1 cost little
    x = Check.street("house a 0 0;house b 9 20;dark k 0 2;");
    Check.send(x, 0, 0, 1);
    x.glass(1, true);
    Check.due("whole", x.refusal(0), 20);
    Check.due("none", x.refusal(1), 0);
    // either of a and b would do: the least bits
    x = Check.street("house a 0 0;house b 0 0;house c 0 20 by 3;dark k 0 3;");
    Check.send(x, 0, 1, 0, 2);
    Check.due("c in time", x.refusal(0), 20);
    Check.due("by a", x.refusal(1), 1);
    // stays of 4, 3, 2: c alone (bits 4) or a and b (bits 3) would do
    x = Check.street("house a 0 0;house b 0 0;house c 0 0;house d 0 20 by 6;dark k 0 4;law stay left;");
    Check.send(x, 0, 2, 0, 1, 3);
    Check.due("by c alone", x.refusal(1), 4);
    Check.due("of no houses", new FirstSill().refusal(0), 0);
  }

  static void triedIs(FirstSill x, String what, int... due) {
    int[][] calls = {{0, 0}, {1, 0}, {2, 0}, {5, 0}};
    for (int i = 0; i < 4; i++) Check.due(what + " tried(" + calls[i][0] + ", 0)", x.tried(calls[i][0], 0), due[i]);
  }

  static void tried() {
    FirstSill x = Check.street("house a 0 9;house b 9 21 by 10;house c 9 5;dark k 0 2;dark l 99 1;");
    Check.send(x, 0, 0, 1, 2);
    Check.due("now: a", x.gain(), 9);
    // without glasses b in time; with coal c too; near: b on minute 3 in time
    triedIs(x, "a, b, c", 30, 14, 30, 9);
    x.glass(0, true);
    Check.due("now: half of a, b", x.gain(), 25);
    triedIs(x, "a refused", 30, 30, 25, 25);
    x.undo();
    Check.due("without a: b, c", x.tried(3, 0), 26);
    Check.due("without b: a, c", x.tried(3, 1), 14);
    Check.due("without c", x.tried(3, 2), 9);
    Check.due("without k", x.tried(4, 0), 0);
    Check.due("without l", x.tried(4, 1), 9);
    Check.due("tried(3, 3)", x.tried(3, 3), -1);
    Check.due("tried(3, -1)", x.tried(3, -1), -1);
    Check.due("tried(4, 2)", x.tried(4, 2), -1);
    Check.due("tried(4, -1)", x.tried(4, -1), -1);
    Check.due("tried(0, 1)", x.tried(0, 1), -1);
    Check.due("tried(1, 1)", x.tried(1, 1), -1);
    Check.due("tried(2, 1)", x.tried(2, 1), -1);
    Check.due("tried(5, 1)", x.tried(5, 1), -1);
    Check.due("tried(6, 0)", x.tried(6, 0), -1);
    Check.due("tried(-1, 0)", x.tried(-1, 0), -1);
    Check.due("nothing is changed", x.gain(), 9);
    // the own one may, if all may; refused and by itself it is whole, by a dark one half
    x = Check.street("house a 0 9 own;house b 5 7;dark k 0 2;law may 0;");
    x.out(0, true);
    x.glass(0, true);
    x.glass(1, true);
    Check.send(x, 0, 0, 1);
    triedIs(x, "nobody may", 0, 0, 0, 12);
    // no way up, nor far: the law of walk with both 0
    x = Check.street("house a 5 9 by 4;dark k 0 2;law walk far+3+up*9;");
    Check.send(x, 0, 0);
    triedIs(x, "near", 0, 0, 9, 0);
    // who has no coal has none still
    x = Check.street("house a 5 9;dark k 0 0;");
    Check.send(x, 0, 0);
    triedIs(x, "no coal", 0, 0, 0, 0);
    // coal is never less: left stays 1 for the laws
    x = Check.street("house a 0 9;house b 0 7;dark k 0 3;law may left=3;");
    Check.send(x, 0, 0, 1);
    triedIs(x, "left", 9, 16, 9, 16);
    // a house out is not there
    x = Check.street("house a 5 9 own;house b 5 8;");
    x.out(0, true);
    Check.due("without one out", x.tried(3, 0), 0);
    Check.due("without another one", x.tried(3, 1), 9);
  }

  public static void main(String[] args) {
    best();
    firstOfSeveral();
    sixHouses();
    many();
    price();
    all();
    exchange();
    climb();
    refusal();
    tried();
    Check.end();
  }
}
