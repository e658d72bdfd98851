import java.math.BigInteger;

/**
 * The edges that "==== 2." and promises 8 to 20, 26 and 27 name, sentence by sentence: the last value that is
 * allowed and the first that is not, the empty and the full. What is refused is in RefusedTest once more.
 */
public final class CourseEdgesTest {
  static final int LOW = Integer.MIN_VALUE;
  static final int HIGH = Integer.MAX_VALUE;
  static final int[] NO_MINUTES = {LOW, -1, 0, 241, 242, HIGH};
  static final int[] NO_GLASSES = {LOW, -1, 10, 11, HIGH};
  /** Six HOUSES and three DARK ones, as many as there may be. */
  static final String FULL = "house a 0 0;house b 99 99;house c 10 1;house d 20 2;house e 30 3 own;house f 40 4 own;"
      + "dark k 0 0;dark l 99 9;dark m 50 5;";
  static final int[] NO_HOUSES = {LOW, -2, -1, 6, 7, HIGH};
  static final int[] NO_DARKS = {LOW, -2, -1, 3, 4, HIGH};
  /** 10 to the 12. */
  static final String MOST = "1000*1000*1000*1000";
  /** 2 to the 32, which is 0 in an int. */
  static final String WRAP = "4096*4096*256";

  static FirstSill law(String kind, String e) { return Check.street("house a 30 9;dark k 20 3;law " + kind + " " + e + ";"); }

  static int walkBy(String e) { return law("walk", e).walk(0, -1, 0, 7, 4); }

  static int stayBy(String e) { return law("stay", e).stays(0, 0, 7, 4, 0); }

  static int mayBy(String e) { return law("may", e).stays(0, 0, 7, 4, 1); }

  static int catBy(String e) { return law("cat", e).cat(0, 7); }

  // ---- "WALK: E of walk (put to 0 .. 240; ..); STAY: .. (put to 0 .. 60; ..); MAY, if .. above 0 ..; CAT: .. (put to 0 .. 1000; ..)"

  static void putTo() {
    String[] es = {"0-" + MOST, "0-" + WRAP, "1-" + WRAP, "0-9999", "0-1", "0", "1", "2"};
    int[] due = {0, 0, 0, 0, 0, 0, 1, 2};
    for (int i = 0; i < es.length; i++) {
      Check.due("WALK " + es[i], walkBy(es[i]), due[i]);
      Check.due("STAY " + es[i], stayBy(es[i]), due[i]);
      Check.due("CAT " + es[i], catBy(es[i]), due[i]);
      Check.due("MAY " + es[i], mayBy(es[i]), due[i] > 0 ? 1 : 0);
    }
    for (int v : new int[] {59, 60, 61, 239, 240, 241, 999, 1000, 1001, 9999}) {
      Check.due("WALK " + v, walkBy("" + v), Math.min(v, 240));
      Check.due("STAY " + v, stayBy("" + v), Math.min(v, 60));
      Check.due("CAT " + v, catBy("" + v), Math.min(v, 1000));
      Check.due("MAY " + v, mayBy("" + v), 1);
    }
    for (String e : new String[] {WRAP, WRAP + "+1", WRAP + "/2", WRAP + "/2-1", MOST}) {
      Check.due("WALK " + e, walkBy(e), 240);
      Check.due("STAY " + e, stayBy(e), 60);
      Check.due("CAT " + e, catBy(e), 1000);
      Check.due("MAY " + e, mayBy(e), 1);
    }
  }

  /** "far without, with an ERROR", "2 without, with an ERROR", "1 without, 0 with an ERROR", "0 without, with an ERROR". */
  static void withoutAndWithAnError() {
    FirstSill x = Check.street("house a 0 9;house b 99 9;house c 50 9;dark k 50 3;");
    FirstSill y = Check.street("house a 0 9;house b 99 9;house c 50 9;dark k 50 3;law walk 1/0;law stay 1/0;law may 1/0;law cat 1/0;");
    int[][] far = {{-1, 0, 50}, {-1, 1, 49}, {-1, 2, 0}, {0, 1, 99}, {1, 0, 99}, {2, 1, 49}, {2, 0, 50}, {0, 2, 50}};
    for (int[] way : far) {
      Check.due("far without", x.walk(0, way[0], way[1], 1, 0), way[2]);
      Check.due("far with an ERROR", y.walk(0, way[0], way[1], 240, 9), way[2]);
    }
    Check.due("STAY without", x.stays(0, 0, 1, 0, 0), 2);
    Check.due("STAY with an ERROR", y.stays(0, 0, 1, 0, 0), 2);
    Check.due("MAY without", x.stays(0, 0, 1, 0, 1), 1);
    Check.due("MAY with an ERROR", y.stays(0, 0, 1, 0, 1), 0);
    Check.due("CAT without", x.cat(0, 1), 0);
    Check.due("CAT with an ERROR", y.cat(0, 1), 0);
    // one law without another: each has its own
    String[] kinds = {"walk", "stay", "may", "cat"};
    int[] without = {10, 2, 1, 0};
    for (int told = 0; told < 4; told++) {
      FirstSill z = law(kinds[told], "33");
      int[] now = {z.walk(0, -1, 0, 1, 0), z.stays(0, 0, 1, 0, 0), z.stays(0, 0, 1, 0, 1), z.cat(0, 1)};
      for (int kind = 0; kind < 4; kind++) {
        Check.due(kinds[kind] + " with a law of " + kinds[told], now[kind], kind != told ? without[kind] : kind == 2 ? 1 : 33);
      }
    }
    // an ERROR on some minutes alone
    x = law("stay", "9/(minute-7)");
    Check.due("minute 6", x.stays(0, 0, 6, 0, 0), 0);
    Check.due("minute 7: an ERROR", x.stays(0, 0, 7, 0, 0), 2);
    Check.due("minute 8", x.stays(0, 0, 8, 0, 0), 9);
  }

  // ---- "NAMES: far: .. (walk; else 0); glass: ..; minute: ..; up: ..; left: COAL; worth: ..; home: 1, if it is for OUT."

  static void namesOfWalk() {
    String[] names = {"far", "glass", "minute", "up", "left", "worth", "home"};
    // from 0 up to 99 with all at its most; from 99 down to 0 with all at its least; at the own place
    int[][] due = {{99, 9, 240, 1, 9, 99, 0}, {99, 0, 1, 0, 0, 0, 0}, {0, 0, 1, 0, 9, 0, 0}};
    for (int i = 0; i < names.length; i++) {
      FirstSill x = Check.street("house a 0 0;house b 99 99;dark k 0 9;dark l 99 0;law walk " + names[i] + ";");
      Check.due("up: " + names[i], x.walk(0, -1, 1, 240, 9), due[0][i]);
      Check.due("up from a: " + names[i], x.walk(0, 0, 1, 240, 9), due[0][i]);
      Check.due("down: " + names[i], x.walk(1, -1, 0, 1, 0), due[1][i]);
      Check.due("down from b: " + names[i], x.walk(1, 1, 0, 1, 0), due[1][i]);
      Check.due("neither: " + names[i], x.walk(0, -1, 0, 1, 0), due[2][i]);
    }
    FirstSill x = Check.street("house a 49 0;house b 51 0;house c 50 0;dark k 50 1;law walk up*10+far;");
    Check.due("one less", x.walk(0, -1, 0, 1, 0), 1);
    Check.due("one more", x.walk(0, -1, 1, 1, 0), 11);
    Check.due("the same", x.walk(0, -1, 2, 1, 0), 0);
  }

  static void namesOfStayAndMay() {
    String[] names = {"far", "glass", "minute", "up", "left", "worth", "home"};
    // k in b on 40 with 6 glasses, l in a on 1 with none, k in a on 240 with 9
    int[][] due = {{0, 6, 40, 0, 8, 99, 0}, {0, 0, 1, 0, 0, 0, 0}, {0, 9, 240, 0, 8, 0, 0}};
    int[][] calls = {{0, 1, 40, 6}, {1, 0, 1, 0}, {0, 0, 240, 9}};
    for (int i = 0; i < names.length; i++) {
      for (int c = 0; c < 3; c++) {
        int[] call = calls[c];
        String street = "house a 0 0;house b 99 99;dark k 0 8;dark l 99 0;";
        FirstSill x = Check.street(street + "law stay 7+(" + names[i] + "=" + due[c][i] + ");law may " + names[i] + "=" + due[c][i] + ";");
        FirstSill y = Check.street(street + "law may " + names[i] + "<>" + due[c][i] + ";");
        // with what walk is asked ahead it has nothing to do
        x.walk(0, -1, 1, 200, 3);
        Check.due("STAY by " + names[i] + ", call " + c, x.stays(call[0], call[1], call[2], call[3], 0), 8);
        x.walk(0, -1, 1, 200, 3);
        Check.due("MAY by " + names[i] + ", call " + c, x.stays(call[0], call[1], call[2], call[3], 1), 1);
        Check.due("not MAY by " + names[i] + ", call " + c, y.stays(call[0], call[1], call[2], call[3], 1), 0);
      }
      FirstSill x = Check.street("house a 0 0;house b 99 99;dark k 0 9;dark l 99 0;law stay " + names[i] + "/4;");
      int[] most = {0, 9, 240, 0, 9, 99, 0};
      Check.due("STAY, most: " + names[i], x.stays(0, 1, 240, 9, 0), most[i] / 4);
    }
  }

  /** "Of cat and OUT glass, left are 0; minute of OUT is 1." */
  static void namesOfCatAndOut() {
    String[] names = {"far", "glass", "minute", "up", "left", "worth", "home"};
    int[] cat = {0, 0, 240, 0, 0, 99, 0};
    int[] out = {0, 0, 1, 0, 0, 99, 1};
    for (int i = 0; i < names.length; i++) {
      FirstSill x = Check.street("house a 0 0;house b 99 99 own;dark k 0 9;law cat " + names[i] + ";law may " + names[i] + "=" + out[i] + ";");
      x.walk(0, -1, 1, 240, 9);
      Check.due("CAT: " + names[i], x.cat(1, 240), cat[i]);
      x.out(1, true);
      x.walk(0, -1, 1, 240, 9);
      x.stays(0, 0, 240, 9, 1);
      Check.due("OUT: " + names[i], x.done(1, 0), -2);
      x = Check.street("house a 0 0;house b 99 99 own;dark k 0 9;law may " + names[i] + "<>" + out[i] + ";");
      x.out(1, true);
      x.walk(0, -1, 1, 240, 9);
      Check.due("not OUT: " + names[i], x.done(1, 0), -1);
    }
    // home is 0 again behind OUT
    FirstSill x = Check.street("house a 0 5 own;house b 0 6;dark k 0 9;law may home or minute>2 and home=0;law walk home*9+2;law cat home;");
    x.out(0, true);
    x.send(0, 1);
    Check.due("b on 3", x.done(1, 1), 3);
    Check.due("no cat", x.night(), 11);
    Check.due("stays", x.stays(0, 0, 1, 0, 1), 0);
  }

  // ---- "VALUES are longs; comparisons, and, or, not are 1 or 0 (what isn't 0 is as 1, both sides are worked out), / is cut towards 0"

  static String signed(int v) { return v < 0 ? "(0-" + -v + ")" : "" + v; }

  static void comparisons() {
    int[] some = {-2, -1, 0, 1, 2};
    String[] signs = {"<", "<=", "=", "<>", ">=", ">"};
    for (int a : some) {
      for (int b : some) {
        boolean[] due = {a < b, a <= b, a == b, a != b, a >= b, a > b};
        for (int i = 0; i < 6; i++) {
          String e = signed(a) + signs[i] + signed(b);
          Check.due(e, walkBy(e), due[i] ? 1 : 0);
          Check.due("5+(" + e + ")*7", walkBy("5+(" + e + ")*7"), due[i] ? 12 : 5);
        }
        String and = signed(a) + " and " + signed(b);
        String or = signed(a) + " or " + signed(b);
        Check.due(and, walkBy("5+(" + and + ")"), a != 0 && b != 0 ? 6 : 5);
        Check.due(or, walkBy("5+(" + or + ")"), a != 0 || b != 0 ? 6 : 5);
      }
      Check.due("not " + a, walkBy("5+(not " + signed(a) + ")"), a == 0 ? 6 : 5);
      Check.due("not not " + a, walkBy("5+(not not " + signed(a) + ")"), a == 0 ? 5 : 6);
    }
  }

  static void cutTowardsZero() {
    for (int a = -7; a <= 7; a++) {
      for (int b = -3; b <= 3; b++) {
        String e = "100+" + signed(a) + "/" + signed(b);
        // with an ERROR it is far, which is 10
        Check.due(e, walkBy(e), b == 0 ? 10 : 100 + a / b);
      }
    }
    Check.due("less than one", walkBy("100+9998/9999"), 100);
    Check.due("less than one below 0", walkBy("100+(0-9998)/9999"), 100);
    Check.due("10 to the 12 by -1", walkBy("((" + MOST + ")/(0-1)+(" + MOST + "))+7"), 7);
  }

  // ---- "ERROR: / by 0, a value above 10 to the 12 or below 0 by more than that"

  static void errors() {
    String least = "(0-" + MOST + ")";
    String[] right = {MOST, least, MOST + "-1+1", "(0-1000)*1000*1000*1000", "(1000*1000)*(1000*1000)", "(0-1000*1000)*(0-1000*1000)",
      "(0-1000*1000)*(1000*1000)", MOST + "*1", MOST + "*(0-1)", "(0-1)*(" + MOST + ")", MOST + "*0", "0*(" + MOST + ")", "0*" + least,
      least + "*1", least + "*(0-1)", MOST + "/1", MOST + "/(0-1)", least + "/(0-1)", "1/(" + MOST + ")", MOST + "-(" + MOST + ")",
      least + "+(" + MOST + ")", MOST + "+0", least + "-0", "0/1", "0/(0-1)", "not (" + MOST + ")", "(" + MOST + ")<" + least,
      "(500*1000*1000*1000)+(500*1000*1000*1000)", "(500*1000*1000*1000)*2", "2*(500*1000*1000*1000)", "8192*8192*8192"};
    // and what is made of it: each sign may be the one that asks
    String[] around = {"(%)*0+77", "77+0*(%)", "77*((%)<>5)", "77*(5<>(%))", "76+(not (% ) or 1)", "77*(1 and (1 or (%)))"};
    for (String e : right) {
      for (String with : around) Check.due(with.replace("%", e), walkBy(with.replace("%", e)), 77);
    }
    String[] wrong = {MOST + "+1", "1+" + MOST, least + "-1", "0-1-" + MOST, "1000*1000*1000*1001", "(0-1000)*1000*1000*1001",
      "(1000*1000+1)*(1000*1000)", "(1000*1000)*(1000*1000+1)", "(0-1000*1000)*(1000*1000+1)", "(0-1000*1000-1)*(0-1000*1000)",
      MOST + "+(" + MOST + ")", least + "-(" + MOST + ")", least + "+" + least, MOST + "-" + least, MOST + "*2", MOST + "*(0-2)", "2*(" + MOST + ")",
      "(" + MOST + ")*(" + MOST + ")", least + "*" + least, "(500*1000*1000*1000+1)*2", "(500*1000*1000*1000)*2+1",
      // 2 to the 78, 2 to the 64: 0 in a long
      "(8192*8192*8192)*(8192*8192*8192)", "(" + WRAP + ")*(" + WRAP + ")", "(0-8192*8192*8192)*(8192*8192*8192)",
      "(8192*8192*8192)*(0-8192*8192*8192)", "(0-8192*8192*8192)*(0-8192*8192*8192)", "(0-" + WRAP + ")*(" + WRAP + ")",
      "1/0", "0/0", "1/(1-1)", "1/home", "(0-1)/0", "(" + MOST + ")/0", "0*(1/0)", "(1/0)*0", "1 or 1/0", "1/0 or 1", "0 and 1/0", "1/0 and 0",
      "1<1/0", "1/0=1/0", "not (1/0)", "1+1/0", "1-1/0", "0/(1/0)", "1 or (" + MOST + "+1)"};
    for (String e : wrong) {
      for (String with : around) Check.due(with.replace("%", e), walkBy(with.replace("%", e)), 10);
    }
  }

  /** As deep as eight '(' and 64 KNOTS let it be: what stands ahead of each sign waits for what is behind it. */
  static void deep() {
    StringBuilder e = new StringBuilder();
    for (int i = 0; i < 6; i++) e.append("0 or 1 and 3<2+1*(");
    e.append("far))))))");
    for (int far = 0; far <= 3; far++) {
      FirstSill x = Check.street("house a " + far + " 1;dark k 0 1;law walk " + e + ";");
      boolean due = far > 1;
      for (int i = 1; i < 6; i++) due = 3 < 2 + (due ? 1 : 0);
      Check.due("61 KNOTS", x.count(2), 61);
      Check.due("deep, far " + far, x.walk(0, -1, 0, 1, 0), due ? 1 : 0);
    }
    FirstSill x = Check.street("house a 9 1;dark k 0 1;law walk 1+(2+(3+(4+(5+(6+(7+(8+(9*far))))))));");
    Check.due("eight open", x.walk(0, -1, 0, 1, 0), 36 + 81);
    x = Check.street("house a 9 1;dark k 0 1;law walk 200-(100-(50-(25-(12-(6-(3-(2-far)))))));");
    Check.due("what is behind is taken from what is ahead", x.walk(0, -1, 0, 1, 0), 200 - (100 - (50 - (25 - (12 - (6 - (3 - (2 - 9))))))));
  }

  // ---- the NAMES once more, as a DARK one goes

  static final String[] NAMES = {"far", "glass", "minute", "up", "left", "worth", "home"};

  /** k goes up to a on 4, leaves it on 6, goes down to b on 19 and leaves it on 21, if no law says otherwise. */
  static FirstSill onTheWay(String law, boolean so, String name, int value) {
    String e = law.replace("%", name + (so ? "=" : "<>") + value);
    FirstSill x = Check.street("house a 53 5;house b 40 11;dark k 50 9;law " + e + ";");
    Check.send(x, 0, 0, 1);
    return x;
  }

  static void namesOnTheWay() {
    String[] laws = {"walk far+50*(minute=1 and %)", "walk far+50*(minute>1 and %)", "stay 2+30*(minute=4 and %)",
      "stay 2+30*(minute=19 and %)", "may minute<>4 or %", "may minute<>19 or %", "cat 1000*(minute=7 and worth=11 and %)"};
    int[][] values = {{3, 0, 1, 1, 9, 5, 0}, {13, 1, 6, 0, 8, 11, 0}, {0, 0, 4, 0, 9, 5, 0}, {0, 1, 19, 0, 8, 11, 0}, {0, 0, 4, 0, 9, 5, 0},
      {0, 1, 19, 0, 8, 11, 0}, {0, 0, 7, 0, 0, 11, 0}};
    // done(0, 1), done(1, 1), after(0, 0), was(1, 1) if it is so, and if not
    int[][] so = {{54, 69, 71, 69}, {4, 69, 71, 69}, {4, 49, 51, 49}, {4, 19, 51, 19}, {4, 19, 21, 19}, {4, 19, 21, 19}, {4, 19, 21, 7}};
    int[][] not = {{4, 19, 21, 19}, {4, 19, 21, 19}, {4, 19, 21, 19}, {4, 19, 21, 19}, {-1, 17, 19, 17}, {4, -1, 19, -1}, {4, 19, 21, 19}};
    for (int law = 0; law < laws.length; law++) {
      for (int i = 0; i < NAMES.length; i++) {
        for (int is = 0; is < 2; is++) {
          FirstSill x = onTheWay(laws[law], is == 1, NAMES[i], values[law][i]);
          int[] due = is == 1 ? so[law] : not[law];
          String told = laws[law] + ", " + NAMES[i] + " " + is;
          Check.due(told + ": a", x.done(0, 1), due[0]);
          Check.due(told + ": b", x.done(1, 1), due[1]);
          Check.due(told + ": leaves", x.after(0, 0), due[2]);
          x.night();
          Check.due(told + ": b in a night", x.was(1, 1), due[3]);
          // so he goes by BEST and in TALES, too
          if (due[0] != -1) x.track(0, 0, due[0]);
          if (due[1] != -1) x.track(0, 1, due[1]);
          Check.due(told + ": best, with b, a at least", x.best(1), 16);
          boolean left = false;
          for (int k = 0; k < x.tales(0); k++) left |= x.tale(0, k, 0) == 0 && x.tale(0, k, 1) == 1;
          Check.due(told + ": the tale a, b", left, true);
        }
      }
    }
  }

  // ---- "He comes WALK minutes behind the one on which he leaves; not at all (the row ends), if that is above 240."

  static void upToMinute240() {
    for (int walk : new int[] {0, 1, 238, 239, 240}) {
      FirstSill x = Check.street("house a 5 9;dark k 3 2;law walk " + walk + ";");
      x.send(0, 0);
      boolean comes = 1 + walk <= 240;
      Check.due("by, WALK " + walk, x.done(0, 0), comes ? 0 : -1);
      Check.due("on, WALK " + walk, x.done(0, 1), comes ? 1 + walk : -1);
      Check.due("where on 240, WALK " + walk, x.where(0, 240), comes ? 0 : -2);
      Check.due("where on 239, WALK " + walk, x.where(0, 239), walk < 239 ? 0 : -2);
      Check.due("gain, WALK " + walk, x.gain(), comes ? 9 : 0);
      Check.due("leaves, WALK " + walk, x.after(0, 0), comes ? 3 + walk : 1);
      Check.due("is at, WALK " + walk, x.after(0, 4), comes ? 5 : 3);
      Check.due("DONE by nobody, WALK " + walk, x.which(1), comes ? 0 : 1);
      Check.due("night, WALK " + walk, x.night(), comes ? 9 : 0);
    }
    // leaving a on 240 or on 241, to b that is not far
    for (int stay : new int[] {58, 59, 60}) {
      FirstSill x = Check.street("house a 0 9;house b 0 5;dark k 0 2;law walk (minute=1)*180;law stay " + stay + ";");
      Check.send(x, 0, 0, 1);
      boolean comes = 181 + stay <= 240;
      Check.due("b, STAY " + stay, x.done(1, 1), comes ? 181 + stay : -1);
      Check.due("leaves, STAY " + stay, x.after(0, 0), comes ? 181 + 2 * stay : 181 + stay);
      Check.due("where on 240, STAY " + stay, x.where(0, 240), comes ? 1 : 0);
      Check.due("somebody comes in vain, STAY " + stay, x.which(2), 0);
    }
  }

  static void theRowEnds() {
    FirstSill x = Check.street("house a 0 9;house b 0 5;house c 0 4;dark k 0 9;law walk (worth=9)*240;law stay 0;");
    Check.send(x, 0, 1, 0, 2);
    Check.due("b on 1", x.done(1, 1), 1);
    Check.due("a is not come to", x.done(0, 0), -1);
    Check.due("nor is c behind it", x.done(2, 0), -1);
    Check.due("where on 240", x.where(0, 240), 0);
    Check.due("nobody comes in vain", x.which(2), 0);
    Check.due("nor in a night", x.night(), 5);
  }

  // ---- "A DARK one begins on minute 1 at the own place, without a glass", "MAY and has COAL", "has 1 COAL less"

  static void coal() {
    for (int coal = 0; coal <= 9; coal++) {
      FirstSill x = Check.street("house a 0 1;house b 0 1;house c 0 1;house d 0 1;house e 0 1;house f 0 1;dark k 0 " + coal + ";law stay 0;");
      Check.send(x, 0, 0, 1, 2, 3, 4, 5);
      int does = Math.min(coal, 6);
      Check.due("DID with COAL " + coal, x.after(0, 3), does);
      Check.due("COAL left of " + coal, x.after(0, 2), coal - does);
      Check.due("glasses by COAL " + coal, x.after(0, 1), does);
      Check.due("gain by COAL " + coal, x.gain(), does);
      Check.due("in vain with COAL " + coal, x.which(2), 63 & ~((1 << does) - 1));
      Check.due("DONE by nobody with COAL " + coal, x.which(1), 63 & ~((1 << does) - 1));
    }
    FirstSill x = Check.street("house a 0 1;house b 0 1;dark k 0 9;law may left=9 and glass=0 or left=8 and glass=1;law stay 0;");
    Check.send(x, 0, 0, 1);
    Check.due("first with nine and none, then eight and one", x.gain(), 2);
    // who may not keeps his COAL
    x = Check.street("house a 0 1;house b 0 2;dark k 0 1;law may worth-1;");
    Check.send(x, 0, 0, 1);
    Check.due("a, who may not", x.done(0, 0), -1);
    Check.due("b, with the coal that was kept", x.done(1, 1), 1);
  }

  /** "unless its GLASS is REFUSED he has one glass more and leaves STAY minutes later ..; else (and if it is REFUSED) he leaves on that minute" */
  static void leaves() {
    FirstSill x = Check.street("house a 9 1;house b 9 2;house c 9 3;dark k 0 2;law stay 20+glass*10+left;");
    Check.send(x, 0, 0, 1, 2, 0);
    Check.due("a on 10", x.done(0, 1), 10);
    Check.due("b on 10 + 22", x.done(1, 1), 32);
    Check.due("c and a on 32 + 31, without coal", x.after(0, 0), 63);
    Check.due("he is at the fourth", x.where(0, 63), 3);
    x.glass(0, true);
    Check.due("a REFUSED: b on 10", x.done(1, 1), 10);
    Check.due("then left is 1, glass 0", x.after(0, 0), 31);
    Check.due("one glass", x.after(0, 1), 1);
    Check.due("two DONE", x.after(0, 3), 2);
    Check.due("no coal", x.after(0, 2), 0);
    x.glass(1, true);
    Check.due("both REFUSED", x.after(0, 0), 10);
    Check.due("no glass", x.after(0, 1), 0);
    Check.due("all on minute 10", x.where(0, 10), 3);
    Check.due("none on minute 9", x.where(0, 9), -2);
  }

  /** "glass: how many he has had": those that are REFUSED are none, whatever he DID. */
  static void glassesHad() {
    String[] laws = {"law walk 1+glass*50;", "law stay 1+glass*50;", "law may glass=0 or minute>99;", "law walk 1+(9-left)*20;", "law stay 1+(9-left)*20;"};
    // a on its minute, b on its one, leaving b; without and with a's GLASS REFUSED
    int[][] taken = {{2, 55, 57}, {1, 2, 53}, {1, -1, 3}, {2, 25, 27}, {1, 2, 23}};
    int[][] refused = {{2, 3, 5}, {1, 1, 2}, {1, 1, 3}, {2, 23, 25}, {1, 1, 22}};
    for (int i = 0; i < laws.length; i++) {
      FirstSill x = Check.street("house a 0 1;house b 0 1;dark k 0 9;" + laws[i]);
      Check.send(x, 0, 0, 1);
      for (int is = 0; is < 2; is++) {
        int[] due = is == 0 ? taken[i] : refused[i];
        Check.due(laws[i] + " REFUSED " + is + ": a", x.done(0, 1), due[0]);
        Check.due(laws[i] + " REFUSED " + is + ": b", x.done(1, 1), due[1]);
        Check.due(laws[i] + " REFUSED " + is + ": leaves", x.after(0, 0), due[2]);
        x.glass(0, true);
      }
    }
  }

  /** Three on the way at once, each with glasses, COAL, minutes and places of his own. */
  static void eachForHimself() {
    FirstSill x = Check.street("house a 10 1;house b 11 1;house c 30 1;house d 31 1;house e 60 1;house f 62 1;dark k 9 9;dark l 29 7;dark m 60 5;"
        + "law walk far+glass+(9-left);law stay glass*5+left;");
    // k: a on 2, stays 9, b on 11 + 1 + 1 + 1 = 14, stays 5 + 8
    Check.send(x, 0, 0, 1);
    // l: c on 1 + 1 + 2 = 4, stays 7, d on 11 + 1 + 1 + 3 = 16, stays 5 + 6
    Check.send(x, 1, 2, 3);
    // m: e on 1 + 4 = 5, stays 5, f on 10 + 2 + 1 + 5 = 18, stays 5 + 4
    Check.send(x, 2, 4, 5);
    int[] on = {2, 14, 4, 16, 5, 18};
    int[][] after = {{27, 2, 7, 2, 11}, {27, 2, 5, 2, 31}, {27, 2, 3, 2, 62}};
    for (int h = 0; h < 6; h++) Check.due("done(" + h + ", 1)", x.done(h, 1), on[h]);
    for (int h = 0; h < 6; h++) Check.due("done(" + h + ", 0)", x.done(h, 0), h / 2);
    for (int d = 0; d < 3; d++) {
      for (int what = 0; what < 5; what++) Check.due("after(" + d + ", " + what + ")", x.after(d, what), after[d][what]);
      Check.due("where at the second", x.where(d, on[2 * d + 1]), 1);
      Check.due("where ahead of it", x.where(d, on[2 * d + 1] - 1), 0);
      Check.due("where at the first", x.where(d, on[2 * d]), 0);
      Check.due("where ahead of it", x.where(d, on[2 * d] - 1), -2);
    }
    x.night();
    for (int h = 0; h < 6; h++) Check.due("was(" + h + ", 1)", x.was(h, 1), on[h]);
  }

  /** "if the HOUSE isn't DONE": by another one, by himself, by itself. */
  static void isDone() {
    FirstSill x = Check.street("house a 0 5 own;dark k 0 9;dark l 0 9;law stay 7;");
    Check.send(x, 0, 0, 0, 0);
    Check.send(x, 1, 0);
    Check.due("once", x.after(0, 3), 1);
    Check.due("one coal less", x.after(0, 2), 8);
    Check.due("stays once", x.after(0, 0), 8);
    Check.due("l does none", x.after(1, 3), 0);
    Check.due("l keeps his coal", x.after(1, 2), 9);
    Check.due("l leaves at once", x.after(1, 0), 1);
    Check.due("in vain", x.which(2), 1);
    x.out(0, true);
    Check.due("k does none", x.after(0, 3), 0);
    Check.due("k leaves at once", x.after(0, 0), 1);
    Check.due("came thrice on minute 1", x.where(0, 1), 2);
  }

  // ---- "Of several who come on one minute the least number is first (with all HOUSES to which he comes on it)."

  static void whoIsFirst() {
    for (int later = 0; later < 8; later++) {
      FirstSill x = Check.street("house a 50 5;dark k " + (45 - (later & 1)) + " 1;dark l " + (55 + (later >> 1 & 1)) + " 1;dark m "
          + (45 - (later >> 2)) + " 1;");
      for (int d = 0; d < 3; d++) x.send(d, 0);
      int first = later == 7 ? 0 : Integer.numberOfTrailingZeros(~later);
      Check.due("who is not later of " + later, x.done(0, 0), first);
      Check.due("on " + later, x.done(0, 1), later == 7 ? 7 : 6);
      Check.due("night, who is not later of " + later, x.night() + x.was(0, 0), 5 + first);
    }
    FirstSill x = Check.street("house a 5 1;house b 5 2;house c 5 3;dark k 0 9;dark l 10 9;dark m 5 9;law stay 0;");
    Check.send(x, 0, 2, 1, 0);
    Check.send(x, 1, 0, 1, 2);
    for (int h = 0; h < 3; h++) Check.due("k with all", x.done(h, 0), 0);
    Check.due("l came to all in vain", x.which(2), 7);
    x.send(2, 1);
    Check.due("m came on minute 1 already", x.done(1, 0), 2);
    Check.due("k to the others", x.done(0, 0) + x.done(2, 0), 0);
    // k has to wait between them: what he does a minute later is behind l's
    x = Check.street("house a 5 1;house b 5 2;dark k 0 9;dark l 10 9;law stay 0;law walk far+(minute>1);");
    Check.send(x, 0, 0, 1);
    Check.send(x, 1, 0, 1);
    Check.due("a by k", x.done(0, 0), 0);
    Check.due("b by k on the next minute, ahead of l", x.done(1, 0), 0);
    x.drop(1);
    x.drop(1);
    Check.send(x, 1, 1);
    Check.due("b by l", x.done(1, 0), 1);
  }

  // ---- "OUT: .. if he MAY, it is DONE on minute 1 by itself, ahead of all."

  static void out() {
    FirstSill x = Check.street("house a 0 5 by 1 own;house b 0 4 by 1 own;dark k 0 9;law may home+worth-5;law stay 0;");
    Check.send(x, 0, 0, 1);
    Check.due("nobody may yet", x.gain(), 0);
    x.out(0, true);
    Check.due("by itself on the very minute 1", x.done(0, 0), -2);
    Check.due("on 1", x.done(0, 1), 1);
    Check.due("at BY 1", x.gain(), 5);
    Check.due("k came in vain", x.which(2), 3);
    x.out(1, true);
    Check.due("b may not: 1 + 4 - 5 is 0", x.done(1, 0), -1);
    Check.due("b on no minute", x.done(1, 1), -1);
    x.out(0, false);
    Check.due("in again", x.done(0, 0), -1);
    x = Check.street("house a 0 5 own;dark k 0 9;law may not home;");
    x.send(0, 0);
    x.out(0, true);
    Check.due("who may not leaves it to k", x.done(0, 0), 0);
    // HOUSES that are not OWN, all six that are
    x = Check.street("house a 1 1 own;house b 1 2 own;house c 1 4 own;house d 1 8 own;house e 1 16 own;house f 1 32 own;law cat 1000;");
    for (int h = 0; h < 6; h++) {
      Check.due("gain of " + h, x.gain(), (1 << h) - 1);
      Check.due("OUT", x.out(h, true), true);
      Check.due("gain with " + h, x.gain(), (2 << h) - 1);
    }
    Check.due("no cat comes to who is DONE", x.night(), 63);
  }

  // ---- "GAIN: of all HOUSES that are DONE at BY at the latest: WORTH; half of it (cut), if its GLASS is REFUSED and .. by a DARK one."

  static void gain() {
    for (int by : new int[] {1, 9, 10, 11, 240}) {
      FirstSill x = Check.street("house a 9 7 by " + by + ";dark k 0 1;");
      x.send(0, 0);
      boolean inTime = 10 <= by;
      Check.due("gain, BY " + by, x.gain(), inTime ? 7 : 0);
      Check.due("night, BY " + by, x.night(), inTime ? 7 : 0);
      Check.due("DONE behind BY " + by, x.which(0), inTime ? 0 : 1);
      Check.due("DONE all the same", x.count(3), 1);
      Check.due("chance, BY " + by, x.chance(0, 0), inTime ? 10 : 0);
      Check.due("best, BY " + by, x.best(1), inTime ? 7 : 0);
      Check.due("all, BY " + by, x.all(1), inTime ? 1 : 0);
    }
    for (int worth : new int[] {0, 1, 2, 3, 98, 99}) {
      FirstSill x = Check.street("house a 0 " + worth + " own;dark k 0 1;");
      x.send(0, 0);
      Check.due("whole " + worth, x.gain(), worth);
      x.glass(0, true);
      Check.due("half of " + worth, x.gain(), worth / 2);
      Check.due("half in a night of " + worth, x.night(), worth / 2);
      x.out(0, true);
      Check.due("whole by itself " + worth, x.gain(), worth);
      Check.due("whole in a night by itself " + worth, x.night(), worth);
    }
    FirstSill x = Check.street("house a 0 99;house b 0 99;house c 0 99;house d 0 99;house e 0 99;house f 0 99;dark k 0 9;");
    Check.send(x, 0, 0, 1, 2, 3, 4, 5);
    Check.due("the most that there can be", x.gain(), 594);
    for (int h = 0; h < 6; h++) x.glass(h, true);
    Check.due("each is halved for itself", x.gain(), 294);
  }

  // ---- "A NIGHT: minute by minute 1 .. 240: who comes on it, then CATS: .."

  /** "the last one, whole (at first the seed), times 1103515245 and 12345, without what is above 31 bits"; "that by 65536", modulo 1000. */
  static final class Numbers {
    private BigInteger last;

    Numbers(long seed) { last = BigInteger.valueOf(seed); }

    int next() {
      last = last.multiply(BigInteger.valueOf(1103515245L)).add(BigInteger.valueOf(12345L)).mod(BigInteger.TWO.pow(31));
      return last.divide(BigInteger.valueOf(65536)).mod(BigInteger.valueOf(1000)).intValue();
    }

    /** The minute up to the last one on which a number is below that of the cats; -1: on none. */
    int spoilt(int cat, int last) {
      for (int m = 1; m <= last; m++) if (next() < cat) return m;
      return -1;
    }
  }

  static void numbers() {
    for (int seed : new int[] {0, 1, 2, 7, 12345, 65536, 99998, 99999}) {
      for (int cat : new int[] {1, 5, 40, 500, 999, 1000}) {
        FirstSill x = Check.street("house a 0 9;seed " + seed + ";law cat " + cat + ";");
        Numbers numbers = new Numbers(seed);
        for (int night = 1; night <= 5; night++) {
          int due = numbers.spoilt(cat, 240);
          x.night();
          Check.due("on, seed " + seed + ", cat " + cat + ", night " + night, x.was(0, 1), due);
          Check.due("by, seed " + seed + ", cat " + cat + ", night " + night, x.was(0, 0), due == -1 ? -1 : -3);
          // what is asked between takes no numbers
          x.chance(seed, 0);
          x.gain();
          x.best(0);
        }
      }
    }
  }

  /** "if that is below it, it is SPOILT": the last number that is below and the first that is not. */
  static void belowTheCat() {
    for (int seed = 0; seed < 60; seed++) {
      int first = new Numbers(seed).next();
      if (first > 0) {
        FirstSill x = Check.street("house a 0 9;seed " + seed + ";law cat " + first + "*(minute=1);");
        x.night();
        Check.due("not below, seed " + seed, x.was(0, 0), -1);
      }
      FirstSill x = Check.street("house a 0 9;seed " + seed + ";law cat " + (first + 1) + "*(minute=1);");
      x.night();
      Check.due("below, seed " + seed, x.was(0, 1), 1);
      Check.due("SPOILT, seed " + seed, x.was(0, 0), -3);
    }
  }

  /** "if its CAT is above 0, a number": none for a HOUSE without a cat, that is DONE or SPOILT; "by numbers". */
  static void whoDrawsANumber() {
    // a and c have cats, b has none: the numbers of each minute are for a, then for c
    for (int seed = 0; seed < 20; seed++) {
      FirstSill x = Check.street("house a 0 1;house b 0 0;house c 0 2;seed " + seed + ";law cat (worth>0)*30;");
      Numbers numbers = new Numbers(seed);
      int[] on = {-1, -1, -1};
      for (int m = 1; m <= 240; m++) {
        for (int h = 0; h < 3; h += 2) if (on[h] == -1 && numbers.next() < 30) on[h] = m;
      }
      x.night();
      for (int h = 0; h < 3; h++) Check.due("seed " + seed + ", house " + h, x.was(h, 1), on[h]);
    }
    // a is DONE on 3, b by itself: numbers are drawn for a on 1, 2 and for c on all
    for (int seed = 0; seed < 20; seed++) {
      FirstSill x = Check.street("house a 2 1;house b 0 1 own;house c 0 2;dark k 0 1;seed " + seed + ";law cat 20;");
      x.send(0, 0);
      x.out(1, true);
      Numbers numbers = new Numbers(seed);
      int[] on = {-1, 1, -1};
      for (int m = 1; m <= 240; m++) {
        if (m == 3 && on[0] == -1) on[0] = 3;
        for (int h = 0; h < 3; h += 2) if (on[h] == -1 && numbers.next() < 20) on[h] = m;
      }
      x.night();
      for (int h = 0; h < 3; h++) Check.due("DONE, seed " + seed + ", house " + h, x.was(h, 1), on[h]);
    }
    // a cat below 0 draws none, nor does one with an ERROR
    FirstSill x = Check.street("house a 0 1;house b 0 2;law cat (worth=2)*1000-(worth=1)*5;");
    x.night();
    Check.due("a", x.was(0, 0), -1);
    Check.due("b", x.was(1, 1), 1);
    Numbers numbers = new Numbers(3);
    x = Check.street("house a 0 1;house b 0 2;seed 3;law cat 7/(worth-1);");
    x.night();
    Check.due("a, with an ERROR", x.was(0, 0), -1);
    Check.due("b has the numbers alone", x.was(1, 1), numbers.spoilt(7, 240));
  }

  static void whoComesIsAheadOfTheCats() {
    for (int minute : new int[] {1, 2, 239, 240}) {
      for (int cat : new int[] {minute - 1, minute, minute + 1}) {
        FirstSill x = Check.street("house a 0 9;dark k 0 1;law walk " + (minute - 1) + ";law cat 1000*(minute=" + cat + ");");
        x.send(0, 0);
        boolean spoilt = cat >= 1 && cat < minute;
        Check.due("comes on " + minute + ", cat on " + cat, x.night(), spoilt ? 0 : 9);
        Check.due("by", x.was(0, 0), spoilt ? -3 : 0);
        Check.due("on", x.was(0, 1), spoilt ? cat : minute);
        Check.due("as planned there are none", x.gain(), 9);
      }
    }
    // nobody comes: the cats of 1 and of 240 come
    for (int cat : new int[] {1, 240}) {
      FirstSill x = Check.street("house a 0 9;law cat 1000*(minute=" + cat + ");");
      x.night();
      Check.due("cat on " + cat, x.was(0, 1), cat);
    }
    // OUT is ahead of the cats of minute 1
    FirstSill x = Check.street("house a 0 9 own;law cat 1000;");
    x.night();
    Check.due("in: SPOILT", x.was(0, 0), -3);
    x.out(0, true);
    x.night();
    Check.due("OUT: by itself", x.was(0, 0), -2);
    Check.due("on 1", x.was(0, 1), 1);
  }

  /** "if the HOUSE isn't DONE, nor SPOILT": who comes to such a one keeps COAL and glasses and leaves on that minute. */
  static void whoComesToASpoiltHouse() {
    FirstSill x = Check.street("house a 1 9;house b 1 8 by 2;house c 1 7;dark k 0 2;law stay 30;law cat 1000*(worth=9);");
    Check.send(x, 0, 0, 1, 2);
    Check.due("as planned: a, b behind BY", x.gain(), 9);
    Check.due("b on its BY and c in the night", x.night(), 15);
    int[][] was = {{-3, 1}, {0, 2}, {0, 32}};
    for (int h = 0; h < 3; h++) for (int what = 0; what < 2; what++) Check.due("was(" + h + ", " + what + ")", x.was(h, what), was[h][what]);
    Check.due("done is as planned", x.done(0, 0), 0);
  }

  /** All six HOUSES, as planned and in a night: two DONE by themselves, two by k, one SPOILT, one neither. */
  static void sixHouses() {
    FirstSill x = Check.street("house a 5 1 own;house b 6 2;house c 7 3;house d 8 4;house e 9 5;house f 10 6 own;dark k 5 9;"
        + "law cat 1000*(worth=3 and minute=2);law may worth<>4;");
    x.out(0, true);
    x.out(5, true);
    Check.send(x, 0, 1, 2, 3, 4, 5);
    int[][] planned = {{-2, 0, 0, -1, 0, -2}, {1, 2, 5, -1, 9, 1}};
    int[][] night = {{-2, 0, -3, -1, 0, -2}, {1, 2, 2, -1, 7, 1}};
    Check.due("gain", x.gain(), 1 + 2 + 3 + 5 + 6);
    Check.due("night", x.night(), 1 + 2 + 5 + 6);
    for (int h = 0; h < 6; h++) {
      for (int what = 0; what < 2; what++) {
        Check.due("done(" + h + ", " + what + ")", x.done(h, what), planned[what][h]);
        Check.due("was(" + h + ", " + what + ")", x.was(h, what), night[what][h]);
      }
    }
    Check.due("DONE by nobody", x.which(1), 8);
    Check.due("in vain", x.which(2), 8 + 32);
    Check.due("DONE", x.count(3), 5);
    // an IMAGE has the night of all six
    x.keep();
    x.out(0, false);
    x.out(5, false);
    for (int i = 0; i < 5; i++) x.drop(0);
    x.night();
    for (int h = 0; h < 6; h++) Check.due("nobody: was(" + h + ", 0)", x.was(h, 0), h == 2 ? -3 : -1);
    x.back();
    for (int h = 0; h < 6; h++) {
      for (int what = 0; what < 2; what++) {
        Check.due("back: done(" + h + ", " + what + ")", x.done(h, what), planned[what][h]);
        Check.due("back: was(" + h + ", " + what + ")", x.was(h, what), night[what][h]);
      }
    }
  }

  // ---- Promise 8

  static void walk() {
    FirstSill x = Check.street(FULL);
    for (int minute : new int[] {1, 2, 239, 240}) {
      for (int glass : new int[] {0, 1, 8, 9}) {
        Check.due("k to b", x.walk(0, -1, 1, minute, glass), 99);
        Check.due("m from f to c", x.walk(2, 5, 2, minute, glass), 30);
      }
    }
    Check.due("from the first one to the last one", x.walk(0, 0, 5, 1, 0), 40);
    Check.due("from the last one to the first one", x.walk(2, 5, 0, 1, 0), 40);
    for (int d : NO_DARKS) Check.due("dark " + d, x.walk(d, -1, 0, 1, 0), -1);
    for (int h : NO_HOUSES) Check.due("to " + h, x.walk(0, -1, h, 1, 0), -1);
    for (int h : NO_HOUSES) if (h != -1) Check.due("from " + h, x.walk(0, h, 0, 1, 0), -1);
    for (int m : NO_MINUTES) Check.due("minute " + m, x.walk(0, -1, 1, m, 0), -1);
    for (int g : NO_GLASSES) Check.due("glass " + g, x.walk(0, -1, 1, 1, g), -1);
    // "and all COAL": what the row has done doesn't matter
    x = Check.street("house a 0 1;house b 0 1;dark k 0 2;law walk left*10+glass;law stay left*10+glass;");
    Check.send(x, 0, 0, 1);
    Check.due("WALK with all COAL", x.walk(0, 0, 1, 50, 3), 23);
    Check.due("STAY with all COAL", x.stays(0, 1, 50, 3, 0), 23);
    // one HOUSE, no dark one and the other way round
    Check.due("no dark one", Check.street("house a 0 1;").walk(0, -1, 0, 1, 0), -1);
    Check.due("no house", Check.street("dark k 0 1;").walk(0, -1, 0, 1, 0), -1);
    Check.due("no house", Check.street("dark k 0 1;").walk(0, -1, -1, 1, 0), -1);
  }

  // ---- Promise 9

  static void stays() {
    FirstSill x = Check.street(FULL + "law stay minute/4;law may minute-239;");
    for (int d = 0; d < 3; d++) {
      for (int h = 0; h < 6; h++) {
        Check.due("STAY on 240", x.stays(d, h, 240, 9, 0), 60);
        Check.due("STAY on 1", x.stays(d, h, 1, 0, 0), 0);
        Check.due("MAY on 240", x.stays(d, h, 240, 0, 1), 1);
        Check.due("MAY on 239", x.stays(d, h, 239, 0, 1), 0);
      }
    }
    for (int what = 0; what < 2; what++) {
      for (int d : NO_DARKS) Check.due("dark " + d, x.stays(d, 0, 1, 0, what), -1);
      for (int h : NO_HOUSES) Check.due("house " + h, x.stays(0, h, 1, 0, what), -1);
      for (int m : NO_MINUTES) Check.due("minute " + m, x.stays(0, 0, m, 0, what), -1);
      for (int g : NO_GLASSES) Check.due("glass " + g, x.stays(0, 0, 1, g, what), -1);
    }
    for (int what : new int[] {LOW, -1, 2, HIGH}) Check.due("what " + what, x.stays(0, 0, 1, 0, what), -1);
    // MAY is asked of the law alone: a house that is DONE, one without COAL
    x = Check.street("house a 0 1;dark k 0 0;");
    Check.due("without COAL", x.stays(0, 0, 1, 0, 1), 1);
    x = Check.street("house a 0 1 own;dark k 0 1;");
    x.out(0, true);
    Check.due("DONE", x.stays(0, 0, 1, 0, 1), 1);
    x.glass(0, true);
    Check.due("REFUSED", x.stays(0, 0, 1, 0, 0), 2);
  }

  // ---- Promise 10

  static void cat() {
    FirstSill x = Check.street(FULL + "law cat minute+worth;");
    Check.due("on 1", x.cat(0, 1), 1);
    Check.due("on 240", x.cat(5, 240), 244);
    for (int h : NO_HOUSES) Check.due("house " + h, x.cat(h, 1), -1);
    for (int m : NO_MINUTES) Check.due("minute " + m, x.cat(0, m), -1);
    Check.due("of no HOUSE", new FirstSill().cat(0, 1), -1);
  }

  // ---- Promises 11, 12

  static void sendAndDrop() {
    FirstSill x = Check.street(FULL);
    for (int d = 0; d < 3; d++) {
      Check.due("an empty row", x.drop(d), -1);
      for (int i = 1; i <= 9; i++) Check.due("the " + i + "th", x.send(d, (i + d) % 6), i);
      Check.due("9 are there", x.send(d, 0), -1);
      Check.due("9 are there still", x.send(d, 5), -1);
      Check.due("nine", x.dark(d, 2), 9);
    }
    for (int d : NO_DARKS) {
      Check.due("send of dark " + d, x.send(d, 0), -1);
      Check.due("drop of dark " + d, x.drop(d), -1);
    }
    for (int d = 0; d < 3; d++) {
      Check.due("the last one", x.drop(d), (9 + d) % 6);
      Check.due("there is room for one", x.send(d, 4), 9);
      Check.due("and no more", x.send(d, 4), -1);
      Check.due("that one goes", x.drop(d), 4);
      for (int i = 8; i >= 1; i--) Check.due("the " + i + "th goes", x.drop(d), (i + d) % 6);
      Check.due("an empty row", x.drop(d), -1);
      for (int h : NO_HOUSES) Check.due("send to " + h, x.send(d, h), -1);
      Check.due("none came", x.dark(d, 2), 0);
      Check.due("first", x.send(d, 0), 1);
      Check.due("last house", x.send(d, 5), 2);
    }
    Check.due("no dark ones", Check.street("house a 1 1;").send(0, 0), -1);
    Check.due("no houses", Check.street("dark k 1 1;").send(0, 0), -1);
    // nine in a row, the last of which is the first that is DONE
    x = Check.street("house a 0 1;house b 0 9;dark k 0 1;law may worth=9;");
    Check.send(x, 0, 0, 0, 0, 0, 0, 0, 0, 0, 1);
    Check.due("the ninth", x.gain(), 9);
    Check.due("he is at the place 8", x.where(0, 240), 8);
  }

  // ---- Promises 13, 14

  static void glassAndOut() {
    FirstSill x = Check.street(FULL);
    for (int h = 0; h < 6; h++) {
      Check.due("it is so", x.glass(h, false), false);
      Check.due("REFUSED", x.glass(h, true), true);
      Check.due("it is so", x.glass(h, true), false);
      Check.due("only this one", Check.look(x, h, 4) * 10 + Check.look(x, (h + 1) % 6, 4), 10);
      Check.due("taken again", x.glass(h, false), true);
      Check.due("it is so", x.glass(h, false), false);
      boolean own = h >= 4;
      Check.due("it is so", x.out(h, false), false);
      Check.due("OUT, OWN " + own, x.out(h, true), own);
      Check.due("it is so, or not OWN", x.out(h, true), false);
      Check.due("OUT is", Check.look(x, h, 5), own ? 1 : 0);
      Check.due("in again", x.out(h, false), own);
      Check.due("it is so", x.out(h, false), false);
    }
    for (int h : NO_HOUSES) {
      for (int is = 0; is < 2; is++) {
        Check.due("glass of " + h, x.glass(h, is == 1), false);
        Check.due("out of " + h, x.out(h, is == 1), false);
      }
    }
    // 32 and 33 are not as 0 and 1
    for (int h : new int[] {32, 33, 36, 64, -28, -32}) {
      Check.due("glass of " + h, x.glass(h, true), false);
      Check.due("out of " + h, x.out(h, true), false);
    }
  }

  // ---- Promises 15, 16

  static void doneAndWhere() {
    FirstSill x = Check.street("house a 0 1;house b 0 1;house c 0 1 own;dark k 0 2;dark l 0 0;law walk (worth=1)*0+(minute>1)*239;law stay 0;");
    Check.send(x, 0, 0, 1);
    x.out(2, true);
    int[][] due = {{0, 1}, {0, 1}, {-2, 1}};
    for (int h = 0; h < 3; h++) for (int what = 0; what < 2; what++) Check.due("done(" + h + ", " + what + ")", x.done(h, what), due[h][what]);
    for (int h : new int[] {LOW, -1, 3, HIGH}) for (int what = 0; what < 2; what++) Check.due("done(" + h + ")", x.done(h, what), -1);
    for (int what : new int[] {LOW, -1, 2, HIGH}) Check.due("done(0, " + what + ")", x.done(0, what), -1);
    for (int m : NO_MINUTES) for (int d = 0; d < 2; d++) Check.due("where(" + d + ", " + m + ")", x.where(d, m), -1);
    for (int d : new int[] {LOW, -1, 2, HIGH}) Check.due("where(" + d + ", 1)", x.where(d, 1), -1);
    Check.due("on minute 1 at the second", x.where(0, 1), 1);
    Check.due("to none yet", x.where(1, 1), -2);
    Check.due("to none at all", x.where(1, 240), -2);
    x = Check.street("house a 9 1;house b 9 1;dark k 0 2;law stay 5;");
    Check.send(x, 0, 0, 1, 0);
    int[][] where = {{1, -2}, {9, -2}, {10, 0}, {14, 0}, {15, 1}, {19, 1}, {20, 2}, {240, 2}};
    for (int[] w : where) Check.due("where(0, " + w[0] + ")", x.where(0, w[0]), w[1]);
  }

  // ---- Promises 18, 19

  static void nightAndWas() {
    FirstSill x = Check.street("house a 0 1;house b 0 2;law cat 1000*(worth=2);");
    for (int h : new int[] {LOW, -1, 2, HIGH}) Check.due("was(" + h + ") ahead", x.was(h, 0), -1);
    for (int what : new int[] {LOW, -1, 2, HIGH}) Check.due("was(0, " + what + ") ahead", x.was(0, what), -1);
    for (int h = 0; h < 2; h++) for (int what = 0; what < 2; what++) Check.due("there was no NIGHT", x.was(h, what), -4);
    Check.due("a night in which nobody comes", x.night(), 0);
    for (int h : new int[] {LOW, -1, 2, HIGH}) for (int what = 0; what < 2; what++) Check.due("was(" + h + ")", x.was(h, what), -1);
    for (int what : new int[] {LOW, -1, 2, HIGH}) Check.due("was(0, " + what + ")", x.was(0, what), -1);
    Check.due("by nobody", x.was(0, 0), -1);
    Check.due("neither", x.was(0, 1), -1);
    Check.due("SPOILT", x.was(1, 0), -3);
    Check.due("on 1", x.was(1, 1), 1);
    for (int i = 2; i <= 9; i++) {
      x.night();
      Check.due("nights", x.count(7), i);
    }
    x = Check.street("dark k 0 1;");
    Check.due("a night without HOUSES", x.night(), 0);
    Check.due("of no HOUSE", x.was(0, 0), -1);
    Check.due("it counts", x.count(7), 1);
  }

  // ---- Promise 20: "In how many of ten NIGHTS drawn (numbers from a seed 0 .. 2147483647 on, one behind another ..)"

  static void chance() {
    for (int seed : new int[] {0, 1, 99999, 100000, 1 << 30, HIGH - 1, HIGH}) {
      for (int cat : new int[] {1, 100, 300, 1000}) {
        for (int far : new int[] {0, 1, 5}) {
          FirstSill x = Check.street("house a " + far + " 9 by " + (far + 1) + ";dark k 0 9;law cat " + cat + ";");
          x.send(0, 0);
          Numbers numbers = new Numbers(seed);
          int due = 0;
          for (int night = 0; night < 10; night++) if (numbers.spoilt(cat, far) == -1) due++;
          Check.due("chance, seed " + seed + ", cat " + cat + ", far " + far, x.chance(seed, 0), due);
        }
      }
    }
    FirstSill x = Check.street("house a 9 9 by 9;house b 9 9 by 10;house c 0 1 by 1 own;house d 9 9;dark k 0 2;law stay 0;");
    Check.send(x, 0, 0, 1);
    x.out(2, true);
    int[] due = {0, 10, 10, 0};
    for (int h = 0; h < 4; h++) Check.due("chance of " + h, x.chance(0, h), due[h]);
    for (int seed : new int[] {LOW, -2, -1}) Check.due("seed " + seed, x.chance(seed, 1), -1);
    for (int h : new int[] {LOW, -1, 4, HIGH}) Check.due("house " + h, x.chance(0, h), -1);
    Check.due("no such HOUSE", new FirstSill().chance(0, 0), -1);
    // "nothing else changes": neither the nights nor their numbers
    x = Check.street("house a 0 9;law cat 25;seed 5;");
    x.night();
    int was = x.was(0, 1);
    x.chance(HIGH, 0);
    Check.due("the latest night stays", x.was(0, 1), was);
    Check.due("one night", x.count(7), 1);
    Numbers numbers = new Numbers(5);
    Check.due("first", was, numbers.spoilt(25, 240));
    x.night();
    Check.due("second", x.was(0, 1), numbers.spoilt(25, 240));
  }

  // ---- Promise 26: "the minute on which he leaves the last HOUSE to which he comes (1: he comes to none) .."

  static void after() {
    FirstSill x = Check.street("house a 99 9;dark k 1 0;dark l 2 9;dark m 98 3;law walk far*2+(left=9)*240;");
    for (int d = 0; d < 3; d++) {
      int[] idle = {1, 0, new int[] {0, 9, 3}[d], 0, new int[] {1, 2, 98}[d]};
      for (int what = 0; what < 5; what++) Check.due("idle: after(" + d + ", " + what + ")", x.after(d, what), idle[what]);
      x.send(d, 0);
    }
    int[][] due = {{197, 0, 0, 0, 99}, {1, 0, 9, 0, 2}, {5, 1, 2, 1, 99}};
    for (int d = 0; d < 3; d++) {
      for (int what = 0; what < 5; what++) Check.due("after(" + d + ", " + what + ")", x.after(d, what), due[d][what]);
      for (int what : new int[] {LOW, -1, 5, HIGH}) Check.due("after(" + d + ", " + what + ")", x.after(d, what), -1);
    }
    for (int d : NO_DARKS) for (int what = 0; what < 5; what++) Check.due("after(" + d + ", " + what + ")", x.after(d, what), -1);
    // he leaves the last one to which he comes, not the one where he did something last
    x = Check.street("house a 5 9;house b 9 9;house c 99 9;dark k 0 1;law stay 40;law walk far+(worth<9)*1;");
    Check.send(x, 0, 0, 1, 2);
    Check.due("c in vain, on 6 + 40 + 4 + 90", x.after(0, 0), 140);
    Check.due("at c", x.after(0, 4), 99);
    // he may leave behind 240, when he does not come anywhere any more
    x = Check.street("house a 0 9;dark k 0 1;law walk 239;law stay 60;");
    x.send(0, 0);
    Check.due("on 300", x.after(0, 0), 300);
  }

  // ---- Promise 27: "HOUSES (bits) as planned, what 0: DONE behind BY, 1: DONE by nobody, 2: .. NONE for another what."

  static void which() {
    FirstSill x = Check.street("house a 9 1 by 9;house b 9 1 by 10;house c 9 1 by 11;house d 9 1;house e 9 1 own;house f 9 1 own;"
        + "dark k 0 3;law stay 0;");
    Check.due("none DONE", x.which(0), 0);
    Check.due("by nobody", x.which(1), 63);
    Check.due("nobody comes", x.which(2), 0);
    x.out(4, true);
    Check.send(x, 0, 0, 1, 2, 3, 4);
    Check.due("behind BY", x.which(0), 1);
    Check.due("by nobody", x.which(1), 8 + 32);
    Check.due("in vain: without COAL, DONE by itself", x.which(2), 8 + 16);
    for (int what : new int[] {LOW, -1, 3, 4, HIGH}) Check.due("which(" + what + ")", x.which(what), -1);
    x.send(0, 0);
    Check.due("he comes again to the one that he DID", x.which(2), 1 + 8 + 16);
    // each HOUSE for itself: the first one and the last one are DONE by nobody
    x = Check.street("house a 9 1;house b 9 1 by 9;house c 9 1 by 10;house d 9 1;dark k 0 2;law stay 0;");
    Check.send(x, 0, 1, 2, 3);
    Check.due("b behind BY", x.which(0), 2);
    Check.due("a and d by nobody", x.which(1), 9);
    Check.due("d in vain", x.which(2), 8);
    for (int what = 0; what < 3; what++) Check.due("no HOUSES: which(" + what + ")", Check.street("dark k 0 1;").which(what), 0);
  }

  public static void main(String[] args) {
    putTo();
    withoutAndWithAnError();
    namesOfWalk();
    namesOfStayAndMay();
    namesOfCatAndOut();
    comparisons();
    cutTowardsZero();
    errors();
    deep();
    namesOnTheWay();
    upToMinute240();
    theRowEnds();
    coal();
    leaves();
    glassesHad();
    eachForHimself();
    isDone();
    whoIsFirst();
    out();
    gain();
    numbers();
    belowTheCat();
    whoDrawsANumber();
    whoComesIsAheadOfTheCats();
    whoComesToASpoiltHouse();
    sixHouses();
    walk();
    stays();
    cat();
    sendAndDrop();
    glassAndOut();
    doneAndWhere();
    nightAndWas();
    chance();
    after();
    which();
    Check.end();
  }
}
