/** Promises 8 to 20, 26 and 27: the laws, the rows, who is first as planned, and nights with cats. */
public final class CourseTest {
  static final String TWO = "house a 10 5;house b 30 9;dark k 20 3;";

  static void walk() {
    FirstSill x = Check.street(TWO);
    Check.due("far from the own place", x.walk(0, -1, 0, 1, 0), 10);
    Check.due("far from another one", x.walk(0, 0, 1, 240, 9), 20);
    Check.due("far back", x.walk(0, 1, 0, 1, 0), 20);
    Check.due("no dark one 1", x.walk(1, -1, 0, 1, 0), -1);
    Check.due("no dark one -1", x.walk(-1, -1, 0, 1, 0), -1);
    Check.due("no house to 2", x.walk(0, -1, 2, 1, 0), -1);
    Check.due("no house to -1", x.walk(0, -1, -1, 1, 0), -1);
    Check.due("no house from 2", x.walk(0, 2, 0, 1, 0), -1);
    Check.due("no house from -2", x.walk(0, -2, 0, 1, 0), -1);
    Check.due("minute 0", x.walk(0, -1, 0, 0, 0), -1);
    Check.due("minute 241", x.walk(0, -1, 0, 241, 0), -1);
    Check.due("glass -1", x.walk(0, -1, 0, 1, -1), -1);
    Check.due("glass 10", x.walk(0, -1, 0, 1, 10), -1);
  }

  static void walkIs(String e, int due) {
    Check.due("walk by " + e, Check.street(TWO + "law walk " + e + ";").walk(0, -1, 1, 7, 4), due);
  }

  static void names() {
    // from 20 up to 30, WORTH 9, on minute 7 with 4 glasses and 3 coals
    walkIs("far", 10);
    walkIs("up", 1);
    walkIs("minute", 7);
    walkIs("glass", 4);
    walkIs("left", 3);
    walkIs("worth", 9);
    walkIs("home+5", 5);
    FirstSill x = Check.street(TWO + "law walk 50+up;law stay far+up+home+1000*0+left*10+glass;law may worth=9;law cat minute*2+worth+left+glass+far+up+home;");
    Check.due("not up", x.walk(0, -1, 0, 1, 0), 50);
    Check.due("not up from b", x.walk(0, 1, 0, 1, 0), 50);
    Check.due("stay: left, glass", x.stays(0, 0, 1, 4, 0), 34);
    Check.due("may: worth", x.stays(0, 1, 1, 4, 1), 1);
    Check.due("may: worth", x.stays(0, 0, 1, 4, 1), 0);
    Check.due("cat: minute, worth", x.cat(1, 240), 489);
    FirstSill y = Check.street(TWO + "law stay minute+worth;law may minute-100;");
    Check.due("stay: minute, worth", y.stays(0, 1, 30, 0, 0), 39);
    Check.due("may below 0", y.stays(0, 1, 30, 0, 1), 0);
    Check.due("may 0", y.stays(0, 1, 100, 0, 1), 0);
    Check.due("may above 0", y.stays(0, 1, 101, 0, 1), 1);
  }

  static void values() {
    walkIs("1+2*3", 7);
    walkIs("(1+2)*3", 9);
    walkIs("10-3-2", 5);
    walkIs("100/5/2", 10);
    walkIs("100/5*2", 40);
    walkIs("7/2", 3);
    walkIs("10+(0-7)/2", 7);
    walkIs("10+7/(0-2)", 7);
    walkIs("1<2", 1);
    walkIs("2<2", 0);
    walkIs("2<=2", 1);
    walkIs("3<=2", 0);
    walkIs("2=2", 1);
    walkIs("2=3", 0);
    walkIs("2<>3", 1);
    walkIs("2<>2", 0);
    walkIs("2>=2", 1);
    walkIs("1>=2", 0);
    walkIs("3>2", 1);
    walkIs("2>2", 0);
    walkIs("5 and 7", 1);
    walkIs("5 and 0", 0);
    walkIs("0-5 or 0", 1);
    walkIs("0 or 0", 0);
    walkIs("not 5", 0);
    walkIs("not 0", 1);
    walkIs("not not 5", 1);
    walkIs("not 1=2", 1);
    walkIs("not 0 and 0", 0);
    walkIs("1 or 0 and 0", 1);
    walkIs("(1 or 0) and 0", 0);
    walkIs("1+1<3", 1);
    walkIs("5+(1<2)", 6);
  }

  static void errors() {
    walkIs("0-1", 0);
    walkIs("240", 240);
    walkIs("241", 240);
    walkIs("1/0", 10);
    walkIs("0*(1/0)", 10);
    walkIs("1 or 1/0", 10);
    walkIs("0 and 1/0", 10);
    walkIs("not (1/0)", 10);
    walkIs("1000*1000*1000*1000/(1000*1000*1000)/20", 50);
    walkIs("(1000*1000*1000*1000+1)*0", 10);
    walkIs("1000*1000*1000*1001*0", 10);
    walkIs("(0-1000*1000*1000*1000)*0+77", 77);
    walkIs("(0-1000*1000*1000*1000-1)*0", 10);
    walkIs("0*((1000*1000*1000*1000)*(1000*1000*1000*1000))", 10);
    walkIs("0*((1000*1000*1000*1000)*(0-1000*1000*1000*1000))", 10);
    // 2 to the 64 would be 0 in a long
    walkIs("(4096*4096*256)*(4096*4096*256)", 10);
    FirstSill x = Check.street(TWO + "law stay 1/0;law may 1/0;law cat 1/0;");
    Check.due("stay with an error", x.stays(0, 0, 1, 0, 0), 2);
    Check.due("may with an error", x.stays(0, 0, 1, 0, 1), 0);
    Check.due("cat with an error", x.cat(0, 1), 0);
    x = Check.street(TWO + "law stay 61;law may 0;law cat 1001;");
    Check.due("stay at most 60", x.stays(0, 0, 1, 0, 0), 60);
    Check.due("cat at most 1000", x.cat(0, 1), 1000);
    x = Check.street(TWO + "law stay 0-1;law may 9999;law cat 0-1;");
    Check.due("stay at least 0", x.stays(0, 0, 1, 0, 0), 0);
    Check.due("may by much", x.stays(0, 0, 1, 0, 1), 1);
    Check.due("cat at least 0", x.cat(0, 1), 0);
  }

  static void stays() {
    FirstSill x = Check.street(TWO);
    Check.due("stay without a law", x.stays(0, 0, 1, 0, 0), 2);
    Check.due("may without a law", x.stays(0, 0, 1, 0, 1), 1);
    Check.due("what 2", x.stays(0, 0, 1, 0, 2), -1);
    Check.due("what -1", x.stays(0, 0, 1, 0, -1), -1);
    Check.due("dark 1", x.stays(1, 0, 1, 0, 0), -1);
    Check.due("house 2", x.stays(0, 2, 1, 0, 0), -1);
    Check.due("house -1", x.stays(0, -1, 1, 0, 0), -1);
    Check.due("minute 0", x.stays(0, 0, 0, 0, 0), -1);
    Check.due("minute 241", x.stays(0, 0, 241, 0, 0), -1);
    Check.due("minute 240, glass 9", x.stays(0, 0, 240, 9, 0), 2);
    Check.due("glass 10", x.stays(0, 0, 1, 10, 0), -1);
    Check.due("glass -1", x.stays(0, 0, 1, -1, 0), -1);
  }

  static void cat() {
    FirstSill x = Check.street(TWO);
    Check.due("cat without a law", x.cat(0, 1), 0);
    Check.due("cat of house 2", x.cat(2, 1), -1);
    Check.due("cat of house -1", x.cat(-1, 1), -1);
    Check.due("cat on minute 0", x.cat(0, 0), -1);
    Check.due("cat on minute 241", x.cat(0, 241), -1);
  }

  static void rows() {
    FirstSill x = Check.street(TWO);
    for (int i = 1; i <= 9; i++) Check.due("send " + i, x.send(0, i % 2), i);
    Check.due("a tenth", x.send(0, 0), -1);
    Check.due("send dark 1", x.send(1, 0), -1);
    Check.due("send dark -1", x.send(-1, 0), -1);
    Check.due("send house 2", x.send(0, 2), -1);
    Check.due("send house -1", x.send(0, -1), -1);
    Check.due("nothing to undo by those", x.count(6), 9);
    Check.due("drop", x.drop(0), 1);
    Check.due("drop", x.drop(0), 0);
    Check.due("drop dark 1", x.drop(1), -1);
    Check.due("drop dark -1", x.drop(-1), -1);
    Check.due("seven are left", x.dark(0, 2), 7);
    for (int i = 0; i < 7; i++) x.drop(0);
    Check.due("drop of an empty row", x.drop(0), -1);
    Check.due("undo by those", x.count(6), 18);
  }

  static void glassAndOut() {
    FirstSill x = Check.street("house a 1 2 own;house b 1 2;");
    Check.due("glass(0, false)", x.glass(0, false), false);
    Check.due("glass(0, true)", x.glass(0, true), true);
    Check.due("glass(0, true) again", x.glass(0, true), false);
    Check.due("glass(0, false)", x.glass(0, false), true);
    Check.due("glass(2, true)", x.glass(2, true), false);
    Check.due("glass(-1, true)", x.glass(-1, true), false);
    Check.due("out(0, false)", x.out(0, false), false);
    Check.due("out(0, true)", x.out(0, true), true);
    Check.due("out(0, true) again", x.out(0, true), false);
    Check.due("out(1, true), not own", x.out(1, true), false);
    Check.due("out(2, true)", x.out(2, true), false);
    Check.due("out(-1, true)", x.out(-1, true), false);
    Check.due("out(0, false)", x.out(0, false), true);
    Check.due("only what was done", x.count(6), 4);
  }

  /** k from 20: to a on 11, stays 2, to b on 33; coal for both. */
  static void planned() {
    FirstSill x = Check.street("house a 10 5;house b 30 9 by 32;house c 99 50;dark k 20 2;dark l 0 9;");
    Check.send(x, 0, 0, 1, 2);
    int[] by = {0, 0, -1};
    int[] on = {11, 33, -1};
    for (int h = 0; h < 3; h++) {
      Check.due("done(" + h + ", 0)", x.done(h, 0), by[h]);
      Check.due("done(" + h + ", 1)", x.done(h, 1), on[h]);
    }
    Check.due("done(3, 0)", x.done(3, 0), -1);
    Check.due("done(-1, 0)", x.done(-1, 0), -1);
    Check.due("done(0, 2)", x.done(0, 2), -1);
    Check.due("done(0, -1)", x.done(0, -1), -1);
    Check.due("gain, b too late, c without coal", x.gain(), 5);
    int[] minutes = {1, 10, 11, 32, 33, 103, 104, 240};
    int[] places = {-2, -2, 0, 0, 1, 1, 2, 2};
    for (int i = 0; i < 8; i++) Check.due("where(0, " + minutes[i] + ")", x.where(0, minutes[i]), places[i]);
    Check.due("where of an empty row", x.where(1, 240), -2);
    Check.due("where(0, 0)", x.where(0, 0), -1);
    Check.due("where(0, 241)", x.where(0, 241), -1);
    Check.due("where(2, 1)", x.where(2, 1), -1);
    Check.due("where(-1, 1)", x.where(-1, 1), -1);
    Check.due("which(0)", x.which(0), 2);
    Check.due("which(1)", x.which(1), 4);
    Check.due("which(2)", x.which(2), 4);
    Check.due("which(3)", x.which(3), -1);
    Check.due("which(-1)", x.which(-1), -1);
    int[] after = {104, 2, 0, 2, 99, -1};
    for (int what = 0; what < 6; what++) Check.due("after(0, " + what + ")", x.after(0, what), after[what]);
    int[] idle = {1, 0, 9, 0, 0, -1};
    for (int what = 0; what < 6; what++) Check.due("after(1, " + what + ")", x.after(1, what), idle[what]);
    Check.due("after(0, -1)", x.after(0, -1), -1);
    Check.due("after(2, 0)", x.after(2, 0), -1);
    Check.due("after(-1, 0)", x.after(-1, 0), -1);
    // b on its BY: two minutes less by a refused glass
    x.glass(0, true);
    Check.due("b on 31", x.done(1, 1), 31);
    Check.due("half of 5 and 9", x.gain(), 11);
    Check.due("one glass", x.after(0, 1), 1);
    Check.due("two done", x.after(0, 3), 2);
  }

  static void onItsMinute() {
    FirstSill x = Check.street("house a 10 5 by 11;house b 10 5 by 10;dark k 0 2;law stay 0;");
    Check.send(x, 0, 0, 1);
    Check.due("at BY is in time", x.gain(), 5);
    Check.due("b is behind BY", x.which(0), 2);
    Check.due("both on one minute", x.where(0, 11), 1);
  }

  static void whoIsFirst() {
    // k comes to a and b on minute 6, l to b and a on it too: k is first, with both
    FirstSill x = Check.street("house a 5 9;house b 5 7;dark k 0 2;dark l 10 2;law stay 0;");
    Check.send(x, 0, 0, 1);
    Check.send(x, 1, 1, 0);
    Check.due("a by k", x.done(0, 0), 0);
    Check.due("b by k", x.done(1, 0), 0);
    Check.due("l came in vain", x.which(2), 3);
    Check.due("l did nothing", x.after(1, 3), 0);
    // k stays a minute now: l is first at b
    x = Check.street("house a 5 9;house b 5 7;dark k 0 2;dark l 10 2;law stay 1;");
    Check.send(x, 0, 0, 1);
    Check.send(x, 1, 1, 0);
    Check.due("a by k", x.done(0, 0), 0);
    Check.due("b by l", x.done(1, 0), 1);
    Check.due("both did one", x.after(0, 3) + x.after(1, 3), 2);
    Check.due("each came to the other's", x.which(2), 3);
    // a later number that comes earlier
    x = Check.street("house a 5 9;dark k 0 2;dark l 6 2;");
    Check.send(x, 0, 0);
    Check.send(x, 1, 0);
    Check.due("a by l", x.done(0, 0), 1);
    Check.due("a on 2", x.done(0, 1), 2);
  }

  static void rowEnds() {
    FirstSill x = Check.street("house a 5 9;house b 5 7;dark k 0 2;law walk 239;law stay 60;");
    Check.send(x, 0, 0, 1);
    Check.due("a on 240", x.done(0, 1), 240);
    Check.due("b never", x.done(1, 1), -1);
    Check.due("leaves behind 240", x.after(0, 0), 300);
    Check.due("is at a", x.where(0, 240), 0);
    Check.due("a is in time", x.gain(), 9);
    Check.due("nobody comes to b in vain", x.which(2), 0);
    x = Check.street("house a 5 9;dark k 3 2;law walk 240;");
    Check.send(x, 0, 0);
    Check.due("241 is not at all", x.done(0, 0), -1);
    Check.due("comes to none", x.after(0, 0), 1);
    Check.due("is at the own place", x.after(0, 4), 3);
    x = Check.street("house a 5 9;house b 5 7;dark k 0 2;law walk minute*0;law stay 0;");
    Check.send(x, 0, 0, 1);
    Check.due("b on minute 1", x.done(1, 1), 1);
    Check.due("where on minute 1", x.where(0, 1), 1);
    // the row ends at the first to which he does not come, also ahead of a nearer one
    x = Check.street("house a 5 9;house b 6 7;dark k 0 2;law walk far*(239+up);");
    Check.send(x, 0, 0, 1);
    Check.due("none is done", x.count(3), 0);
  }

  static void coalAndStay() {
    // STAY by glass and COAL as he had them when he came: 0 glasses, 3 coals at first
    FirstSill x = Check.street("house a 0 1;house b 0 1;house c 0 1;dark k 0 2;law stay glass*10+left;");
    Check.send(x, 0, 0, 1, 2, 0);
    Check.due("a on 1", x.done(0, 1), 1);
    Check.due("b on 1 + 2", x.done(1, 1), 3);
    Check.due("c without coal", x.done(2, 0), -1);
    Check.due("leaves on 3 + 11", x.after(0, 0), 14);
    Check.due("c and a in vain", x.which(2), 5);
    // WALK by the glasses he has had, by what is left, by the minute on which he leaves
    x = Check.street("house a 0 1;house b 0 1;dark k 0 5;law walk glass*100+left*10+minute;law stay 5;");
    Check.send(x, 0, 0, 1);
    Check.due("a on 1 + 51", x.done(0, 1), 52);
    Check.due("b on 57 + 197 is not at all", x.done(1, 1), -1);
    x = Check.street("house a 0 1;house b 0 1;dark k 0 5;law walk glass*10+left+minute;law stay 5;");
    Check.send(x, 0, 0, 1);
    Check.due("a on 1 + 6", x.done(0, 1), 7);
    Check.due("b on 12 + 26", x.done(1, 1), 38);
    // who may not, leaves at once and keeps his coal
    x = Check.street("house a 0 1;house b 0 4;dark k 0 5;law may worth>2 and glass=0 and left=5 and minute<2 and not home;");
    Check.send(x, 0, 0, 1);
    Check.due("a may not", x.done(0, 0), -1);
    Check.due("b may", x.done(1, 1), 1);
    Check.due("coal is 4", x.after(0, 2), 4);
    x = Check.street("house a 0 1;dark k 0 0;");
    Check.send(x, 0, 0);
    Check.due("none without coal", x.gain(), 0);
  }

  static void out() {
    FirstSill x = Check.street("house a 0 9 own;house b 5 4 own;dark k 0 3;law may home=0 or minute=1 and glass+left+far+up=0 and worth=9;");
    Check.send(x, 0, 0, 1);
    Check.due("a by k", x.done(0, 0), 0);
    x.out(0, true);
    x.out(1, true);
    Check.due("a by itself, ahead of all", x.done(0, 0), -2);
    Check.due("a on minute 1", x.done(0, 1), 1);
    Check.due("b may not itself", x.done(1, 0), 0);
    Check.due("k did one", x.after(0, 3), 1);
    Check.due("k came to a in vain", x.which(2), 1);
    x.glass(0, true);
    x.glass(1, true);
    Check.due("a whole, b by half", x.gain(), 11);
    x = Check.street("house a 0 9 own;law may 1/0;");
    x.out(0, true);
    Check.due("out with an error", x.done(0, 0), -1);
    x = Check.street("house a 0 9 by 1 own;law may home;");
    x.out(0, true);
    Check.due("out without dark ones", x.gain(), 9);
  }

  /** home is 1 when it is asked who may go OUT, and 0 for all else, behind that too. */
  static void home() {
    FirstSill x = Check.street("house a 0 9 own;house b 5 4;dark k 0 3;law may home=1 or worth=4;law walk far+home*50;"
        + "law stay 3+home;law cat home*1000;");
    x.out(0, true);
    Check.send(x, 0, 0, 1);
    Check.due("a by itself", x.done(0, 0), -2);
    Check.due("b on 6", x.done(1, 1), 6);
    Check.due("leaves on 9", x.after(0, 0), 9);
    Check.due("no cat comes", x.night(), 13);
    Check.due("b on 6 in the night", x.was(1, 1), 6);
    Check.due("no cat", x.cat(1, 1), 0);
    Check.due("best", x.best(1), 13);
    Check.due("a may not be done by k", x.stays(0, 0, 1, 0, 1), 0);
    x = Check.street("house a 0 9 own;house b 50 4;law may home=1;law cat home*1000;");
    x.out(0, true);
    x.night();
    Check.due("b has no cat", x.was(1, 0), -1);
  }

  static void night() {
    // numbers of seed 7: 564, 806, 868, 674, 531, 365, 34, 790, 985, 913, 213, 363
    FirstSill x = Check.street("house a 0 9;house b 50 6;dark d 4 1;law cat 365*(minute>1);seed 7;");
    Check.send(x, 0, 0);
    Check.due("was ahead of a night", x.was(0, 0), -4);
    Check.due("was(2, 0) ahead of a night", x.was(2, 0), -1);
    Check.due("was(0, 2) ahead of a night", x.was(0, 2), -1);
    x.chance(5, 1);
    Check.due("chance is no night", x.count(7), 0);
    Check.due("was behind chance", x.was(0, 0), -4);
    // a is drawn for ahead of b; on minute 5 d comes ahead of the cats, and 34 is for b
    Check.due("night 1", x.night(), 9);
    Check.due("a by d", x.was(0, 0), 0);
    Check.due("a on 5", x.was(0, 1), 5);
    Check.due("b spoilt", x.was(1, 0), -3);
    Check.due("b on 5", x.was(1, 1), 5);
    Check.due("one night", x.count(7), 1);
    Check.due("night 2", x.night(), 0);
    Check.due("a spoilt", x.was(0, 0), -3);
    Check.due("a on 4", x.was(0, 1), 4);
    Check.due("b on 3", x.was(1, 1), 3);
    Check.due("two nights", x.count(7), 2);
    Check.due("was(2, 0)", x.was(2, 0), -1);
    Check.due("was(-1, 0)", x.was(-1, 0), -1);
    Check.due("was(0, 2)", x.was(0, 2), -1);
    Check.due("was(0, -1)", x.was(0, -1), -1);
    Check.due("as planned there are no cats", x.gain(), 9);
    x.drop(0);
    Check.due("was stays behind a change", x.was(0, 0), -3);
  }

  static void cats() {
    // seed 0 draws 0 at first: it is below 1
    FirstSill x = Check.street("house a 0 9;house b 9 9 own;dark k 3 1;law cat 1;");
    x.out(1, true);
    Check.due("night", x.night(), 9);
    Check.due("a spoilt on 1", x.was(0, 1), 1);
    Check.due("b by itself", x.was(1, 0), -2);
    Check.due("b on 1", x.was(1, 1), 1);
    // not drawn without a cat: a has none, so that the first number is for b
    x = Check.street("house a 0 0;house b 9 9;dark k 9 1;law cat worth>0;");
    x.night();
    Check.due("a neither", x.was(0, 0), -1);
    Check.due("a on no minute", x.was(0, 1), -1);
    Check.due("b spoilt", x.was(1, 0), -3);
    Check.send(x, 0, 1);
    Check.due("with k ahead of the cat", x.night(), 9);
    Check.due("b on minute 1", x.was(1, 1), 1);
    // he comes to a spoilt house, keeps his coal and goes on at once
    x = Check.street("house a 1 9;house b 1 8;dark k 0 1;law cat (worth=9)*1000;");
    Check.send(x, 0, 0, 1);
    Check.due("b instead of a", x.night(), 8);
    Check.due("b on 2", x.was(1, 1), 2);
    Check.due("a on 1", x.was(0, 1), 1);
    x.glass(1, true);
    Check.due("half in a night", x.night(), 4);
  }

  static void chance() {
    // cats on minute 1 alone, one number a night: seed 0 draws 0, 468, 988, 117, 498, 927, 45, 741, 122, 410
    FirstSill x = Check.street("house a 1 9;house b 1 9 by 2;house c 1 9 own;dark k 0 9;law cat 118*(minute=1);seed 3;");
    Check.send(x, 0, 0);
    x.out(2, true);
    x.send(0, 1);
    x.drop(0);
    FirstSill y = Check.street("house a 1 9;dark k 0 9;law cat 118*(minute=1);seed 3;");
    Check.send(y, 0, 0);
    Check.due("seven of ten", y.chance(0, 0), 7);
    Check.due("the same again", y.chance(0, 0), 7);
    // seed 5 draws 655, 457, 616, 877, 193, 964, 104, 667, 572, 560
    Check.due("nine of ten", y.chance(5, 0), 9);
    // 2147483647 draws 929, 409, 862, 718, 713, 226, 80, 63, 32, 734
    Check.due("the greatest seed", y.chance(2147483647, 0), 7);
    Check.due("nights are not counted", y.count(7), 0);
    Check.due("own one", x.chance(0, 2), 10);
    Check.due("nobody comes", x.chance(0, 1), 0);
    Check.due("house 3", x.chance(0, 3), -1);
    Check.due("house -1", x.chance(0, -1), -1);
    Check.due("seed -1", x.chance(-1, 0), -1);
    FirstSill z = Check.street("house a 1 9 by 1;dark k 0 9;");
    Check.send(z, 0, 0);
    Check.due("too late", z.chance(0, 0), 0);
  }

  public static void main(String[] args) {
    walk();
    names();
    values();
    errors();
    stays();
    cat();
    rows();
    glassAndOut();
    planned();
    onItsMinute();
    whoIsFirst();
    rowEnds();
    coalAndStay();
    out();
    home();
    night();
    cats();
    chance();
    Check.end();
  }
}
