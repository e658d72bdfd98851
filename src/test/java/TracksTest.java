/** Promises 31 to 35 and 37 to 39: tracks in the snow, what is undone, and images. */
public final class TracksTest {
  static final String THREE = "house a 10 5;house b 20 6;house c 30 7;dark k 0 2;dark l 99 2;";

  static void track() {
    FirstSill x = Check.street(THREE);
    Check.due("track", x.track(0, 0, 11), 0);
    Check.due("track", x.track(1, 2, 240), 1);
    Check.due("track dark 2", x.track(2, 0, 1), -1);
    Check.due("track dark -1", x.track(-1, 0, 1), -1);
    Check.due("track house 3", x.track(0, 3, 1), -1);
    Check.due("track house -1", x.track(0, -1, 1), -1);
    Check.due("track minute 0", x.track(0, 0, 0), -1);
    Check.due("track minute 241", x.track(0, 0, 241), -1);
    Check.due("strike(2)", x.strike(2), -1);
    Check.due("strike(-1)", x.strike(-1), -1);
    Check.due("strike(1)", x.strike(1), 2);
    Check.due("a strike is struck", x.strike(2), 3);
    for (int i = 4; i < 24; i++) Check.due("track " + i, x.track(0, 0, 1), i);
    Check.due("a 25th track", x.track(0, 0, 1), -1);
    Check.due("a 25th strike", x.strike(0), -1);
    Check.due("count(4)", x.count(4), 24);
    Check.due("nothing to undo", x.undo(), -1);
  }

  static void taleIs(FirstSill x, int dark, int k, int... row) {
    for (int i = 0; i < row.length; i++) Check.due("tale(" + dark + ", " + k + ", " + i + ")", x.tale(dark, k, i), row[i]);
    Check.due("tale(" + dark + ", " + k + ", " + row.length + ")", x.tale(dark, k, row.length), -2);
  }

  static void tales() {
    FirstSill x = Check.street(THREE);
    Check.due("all rows of three", x.tales(0), 16);
    taleIs(x, 0, 0);
    taleIs(x, 0, 1, 0);
    taleIs(x, 0, 2, 0, 1);
    taleIs(x, 0, 3, 0, 1, 2);
    taleIs(x, 0, 4, 0, 2);
    taleIs(x, 0, 15, 2, 1, 0);
    Check.due("tale(0, 16, 0)", x.tale(0, 16, 0), -3);
    Check.due("tale(0, 16, 9)", x.tale(0, 16, 9), -3);
    Check.due("tale(0, -1, 0)", x.tale(0, -1, 0), -1);
    Check.due("tale(0, 0, -1)", x.tale(0, 0, -1), -1);
    Check.due("tale(0, 16, -1)", x.tale(0, 16, -1), -1);
    Check.due("tale(2, 0, 0)", x.tale(2, 0, 0), -1);
    Check.due("tale(-1, 0, 0)", x.tale(-1, 0, 0), -1);
    Check.due("tale(0, 0, most)", x.tale(0, 0, Integer.MAX_VALUE), -2);
    Check.due("tales(2)", x.tales(2), -1);
    Check.due("tales(-1)", x.tales(-1), -1);
    // k DID b on 23: behind a (11 + 2 + 10); a third one without coal may follow
    x.track(0, 1, 23);
    Check.due("a, b and a, b, c", x.tales(0), 2);
    taleIs(x, 0, 0, 0, 1);
    taleIs(x, 0, 1, 0, 1, 2);
    Check.due("l isn't held by it", x.tales(1), 16);
    x.track(0, 0, 11);
    Check.due("both are so", x.tales(0), 2);
    x.track(0, 0, 12);
    Check.due("not on two minutes", x.tales(0), 0);
    Check.due("no tale", x.tale(0, 0, 0), -3);
    // as if alone: l DID a ahead of him doesn't matter, nor what is planned
    FirstSill y = Check.street(THREE);
    Check.send(y, 1, 0);
    Check.send(y, 0, 2);
    y.track(0, 0, 11);
    Check.due("a first: a, ab, abc, ac, acb", y.tales(0), 5);
    // glasses and out as they are
    y.track(0, 1, 21);
    Check.due("not with a glass", y.tales(0), 0);
    y.glass(0, true);
    Check.due("without a glass", y.tales(0), 2);
    y = Check.street("house a 10 5 own;dark k 0 2;");
    y.track(0, 0, 11);
    Check.due("he did it", y.tales(0), 1);
    y.out(0, true);
    Check.due("it was done by itself", y.tales(0), 0);
    // also such whose last houses he doesn't come to
    y = Check.street("house a 10 5;house b 10 5;dark k 0 2;law walk 200;");
    Check.due("all rows", y.tales(0), 5);
    y.track(0, 0, 201);
    Check.due("a and a, b", y.tales(0), 2);
    // he comes there, but doesn't do it
    y = Check.street("house a 10 5;dark k 0 0;");
    y.track(0, 0, 11);
    Check.due("without coal", y.tales(0), 0);
    y = Check.street("dark k 0 0;");
    Check.due("one row of no houses", y.tales(0), 1);
    taleIs(y, 0, 0);
  }

  static void known() {
    FirstSill x = Check.street(THREE);
    x.track(0, 1, 23);
    x.track(0, 2, 50);
    Check.due("none so", x.tales(0), 0);
    Check.due("known(1)", x.known(1), true);
    Check.due("by the first", x.tales(0), 2);
    Check.due("count(5)", x.count(5), 1);
    Check.due("known(3)", x.known(3), false);
    Check.due("known(-2)", x.known(-2), false);
    Check.due("count(5) stays", x.count(5), 1);
    Check.due("known(0)", x.known(0), true);
    Check.due("by none", x.tales(0), 16);
    Check.due("count(5)", x.count(5), 0);
    Check.due("known(2)", x.known(2), true);
    x.strike(1);
    Check.due("the strike isn't known", x.tales(0), 0);
    Check.due("count(5)", x.count(5), 2);
    Check.due("known(-1)", x.known(-1), true);
    Check.due("it is", x.tales(0), 2);
    Check.due("count(5)", x.count(5), 3);
    Check.due("strike of the strike", x.strike(2), 3);
    Check.due("it doesn't count", x.tales(0), 0);
    Check.due("strike of that", x.strike(3), 4);
    Check.due("it counts again", x.tales(0), 2);
    x.strike(0);
    Check.due("all are struck", x.tales(0), 16);
    Check.due("known(5)", x.known(5), true);
    Check.due("one of them", x.tales(0), 2);
    Check.due("known(4)", x.known(4), true);
    Check.due("the strike is struck", x.tales(0), 0);
    // two strikes of one: one of these is struck
    FirstSill y = Check.street(THREE);
    y.track(0, 0, 240);
    y.strike(0);
    y.strike(0);
    y.strike(1);
    Check.due("still struck", y.tales(0), 16);
    Check.due("later ones too", y.track(0, 0, 239), 4);
    Check.due("known by all, those to come too", y.tales(0), 0);
  }

  static void undo() {
    FirstSill x = Check.street("house a 10 5 own;house b 20 6;dark k 0 2;");
    Check.due("nothing", x.undo(), -1);
    x.send(0, 0);
    x.send(0, 1);
    x.drop(0);
    x.glass(1, true);
    x.out(0, true);
    x.glass(1, true);
    x.out(1, true);
    Check.due("five", x.count(6), 5);
    Check.due("undo out", x.undo(), 4);
    Check.due("not out", x.look(0, 5), 0);
    Check.due("still refused", x.look(1, 4), 1);
    Check.due("undo glass", x.undo(), 3);
    Check.due("not refused", x.look(1, 4), 0);
    Check.due("undo drop", x.undo(), 2);
    Check.due("two in the row", x.dark(0, 2), 2);
    Check.due("b again", x.dark(0, 4), 1);
    Check.due("undo send", x.undo(), 1);
    Check.due("undo send", x.undo(), 0);
    Check.due("empty", x.dark(0, 2), 0);
    Check.due("none", x.undo(), -1);
    for (int i = 0; i < 12; i++) {
      x.glass(0, true);
      x.glass(0, false);
    }
    x.send(0, 0);
    Check.due("20 at most", x.count(6), 20);
    for (int i = 19; i >= 0; i--) Check.due("undo", x.undo(), i);
    Check.due("no more", x.undo(), -1);
    Check.due("as 20 ahead", x.look(0, 4), 1);
    Check.due("row as 20 ahead", x.dark(0, 2), 0);
    // nights and tracks are not undone
    x.send(0, 0);
    x.night();
    x.track(0, 0, 1);
    x.undo();
    Check.due("nights stay", x.count(7), 1);
    Check.due("tracks stay", x.count(4), 1);
  }

  static void images() {
    FirstSill x = Check.street("house a 10 5 own;house b 20 6;dark k 0 2;law cat 3*minute;");
    Check.due("no image", x.back(), -1);
    x.send(0, 0);
    x.glass(1, true);
    Check.due("keep", x.keep(), 5);
    Check.due("undo stays", x.count(6), 2);
    int first = x.night();
    int by = x.was(1, 0);
    int on = x.was(1, 1);
    int second = x.night();
    x.send(0, 1);
    x.out(0, true);
    x.glass(1, false);
    x.track(0, 0, 1);
    x.known(0);
    Check.tell(x, "house");
    Check.feed(x, "seed 1;seed 2;");
    Check.due("back", x.back(), 5);
    Check.due("row", x.dark(0, 2), 1);
    Check.due("glass", x.look(1, 4), 1);
    Check.due("out", x.look(0, 5), 0);
    Check.due("no nights", x.count(7), 0);
    Check.due("no night", x.was(0, 0), -4);
    Check.due("nothing to undo", x.count(6), 0);
    Check.due("undo", x.undo(), -1);
    Check.due("tracks stay", x.count(4), 1);
    Check.due("known stays", x.count(5), 0);
    Check.due("the fault stays", x.fault(1), 5);
    Check.due("numbers as they were", x.night(), first);
    Check.due("was by", x.was(1, 0), by);
    Check.due("was on", x.was(1, 1), on);
    Check.due("keep in place of the one ahead", x.keep(), 5);
    Check.due("second night", x.night(), second);
    x.night();
    x.drop(0);
    Check.due("back", x.back(), 5);
    Check.due("one night", x.count(7), 1);
    Check.due("was by of the first", x.was(1, 0), by);
    Check.due("was on of the first", x.was(1, 1), on);
    Check.due("second night again", x.night(), second);
    x.drop(0);
    Check.due("the image is still there", x.back(), 5);
    Check.due("best by the glass of the image", x.best(1), 8);
    x.glass(1, false);
    Check.due("best without it", x.best(1), 11);
    x.back();
    Check.due("best by the glass of the image", x.best(1), 8);
    Check.due("the tape stays", x.text(14), -1);
    Check.due("its fault", x.fault(0), 3);
  }

  public static void main(String[] args) {
    track();
    tales();
    known();
    undo();
    images();
    Check.end();
  }
}
