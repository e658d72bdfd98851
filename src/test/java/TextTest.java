import java.util.NoSuchElementException;

/** Promises 1 to 7 and 40: the object, the TAPE, the TEXT, its FAULTS and what it tells. */
public final class TextTest {
  static void newObject() {
    FirstSill x = new FirstSill();
    for (int what = 0; what < 8; what++) Check.due("new count(" + what + ")", x.count(what), 0);
    Check.due("new fault(0)", x.fault(0), 0);
    Check.due("new fault(1)", x.fault(1), -1);
    Check.due("new gain()", x.gain(), 0);
    Check.due("new text(1)", x.text(1), -2);
    Check.due("new text(0)", x.text(0), 0);
    Check.due("new best(0)", x.best(0), 0);
    Check.due("new best(1)", x.best(1), -1);
    Check.due("new was(0, 0)", x.was(0, 0), -1);
    Check.due("new send(0, 0)", x.send(0, 0), -1);
    Check.due("NONE", FirstSill.NONE, -1);
  }

  static void feed() {
    FirstSill x = new FirstSill();
    for (int i = 1; i <= 30; i++) Check.due("feed " + i, x.feed(i, i, i, i, i), 20 * i);
    Check.due("feed 31", x.feed(1, 1, 1, 1, 1), -1);
    Check.due("text(601)", x.text(601), -2);
    Check.due("text(600)", x.text(600), -1);
    Check.due("feed behind a fault", x.feed(0, 0, 0, 0, 0), 20);
    // "seed" and " 7; " and blanks; the highest byte comes first
    FirstSill y = new FirstSill();
    y.feed(0x73656564, 0x20373b20, 0x20202020, 0x20202020, 0xff202020);
    Check.due("text of bytes", y.text(16), 1);
    y.feed(0xff202020, 0, 0, 0, 0);
    Check.due("text of 255", y.text(1), -1);
    Check.due("fault of 255", y.fault(0), 1);
    Check.due("its place", y.fault(1), 0);
  }

  static void text() {
    FirstSill x = Check.street("house a 1 2;dark k 3 4;");
    x.send(0, 0);
    x.night();
    x.track(0, 0, 3);
    x.glass(0, true);
    x.keep();
    Check.due("a fault", Check.tell(x, "house a 1 2;house"), -1);
    Check.due("all else stays: houses", x.count(0), 1);
    Check.due("all else stays: rows", x.dark(0, 2), 1);
    Check.due("all else stays: tracks", x.count(4), 1);
    Check.due("all else stays: nights", x.count(7), 1);
    Check.due("all else stays: undo", x.count(6), 2);
    Check.due("all else stays: image", x.back(), 1);
    Check.due("fault(0)", x.fault(0), 1);
    Check.due("fault(1)", x.fault(1), 17);
    Check.due("text(1) of an empty tape", x.text(1), -2);
    Check.due("text(-1)", x.text(-1), -2);
    Check.due("fault(0) stays behind -2", x.fault(0), 1);
    Check.due("fault(2)", x.fault(2), -1);
    Check.due("fault(-1)", x.fault(-1), -1);
    Check.feed(x, "house a 1 2;;;;");
    Check.due("text(21) of 20 bytes", x.text(21), -2);
    Check.due("the first n bytes alone", x.text(12), 1);
    Check.due("the others are gone", x.text(1), -2);
    Check.due("fault(0)", x.fault(0), 0);
    Check.due("fault(1)", x.fault(1), -1);
    Check.due("empty tracks", x.count(4), 0);
    Check.due("no night", x.was(0, 0), -4);
    Check.due("no undo", x.undo(), -1);
    Check.due("no image", x.back(), -1);
    Check.due("no dark ones", x.count(1), 0);
    Check.due("no glass refused", x.look(0, 4), 0);
    Check.due("text(0)", x.text(0), 0);
    Check.due("without houses", x.count(0), 0);
  }

  /** What stands behind the first n bytes is no part of any token of theirs. */
  static void cutText() {
    String[] texts = {"law walk 1<=2;", "law walk 1<>2;", "law walk 1>=2;"};
    for (String text : texts) {
      FirstSill x = new FirstSill();
      Check.feed(x, text);
      Check.due("cut " + text, x.text(11), -1);
      Check.due("more must come", x.fault(0), 1);
      Check.due("at the length", x.fault(1), 11);
    }
    FirstSill x = new FirstSill();
    Check.feed(x, "seed 1234567;seed 1;");
    Check.due("cut number", x.text(9), -1);
    Check.due("at the length", x.fault(1), 9);
    Check.feed(x, "lawwalk;");
    Check.due("cut word", x.text(4), -1);
    Check.due("law, then w", x.fault(1), 0);
    Check.feed(x, "seed 12345;        <");
    Check.due("a sign is the last of all", x.text(20), -1);
    Check.due("it can't stand there", x.fault(1), 19);
    for (int i = 0; i < 29; i++) x.feed(0x20202020, 0x20202020, 0x20202020, 0x20202020, 0x20202020);
    Check.feed(x, "         law walk 1<");
    Check.due("at the very end of the tape", x.text(600), -1);
    Check.due("more must come", x.fault(1), 600);
  }

  static void lines() {
    Check.right("", 0);
    Check.right("  \n\n ", 0);
    Check.right("house a 0 0;", 1);
    Check.right("house zzzzzz 99 99 by 240 own;", 1);
    Check.right("house a 1 2 by 1;house b 1 2 own;", 2);
    Check.right("house\na\n1\n2\nby\n3\nown\n;\n", 1);
    Check.right("law cat 1;law may 1;law stay 1;law walk 1;seed 0;dark a 0 0;house a 1 2;", 7);
  }

  static void joinedTokens() {
    // Words are letters in a row and numbers digits: no blank is needed between the two.
    Check.right("house a1 2by3own;dark k4 5;seed6;", 3);
    Check.right("law walk far+1or up<2;", 1);
    Check.fault("housea 1 2;", 1, 0);
    Check.fault("house a1b2;", 1, 8);
    Check.right("house a 001 0000000000000000000002;", 1);
  }

  static void faultsOfTokens() {
    Check.fault("!", 1, 0);
    Check.fault("house a 1 2,", 1, 11);
    Check.fault("house A 1 2;", 1, 6);
    Check.fault("house\ta 1 2;", 1, 5);
    Check.fault("house abcdefg 1 2;", 1, 6);
    Check.fault("house minute 1 2;", 1, 6);
    Check.fault("house home 1 2;", 1, 6);
    Check.fault("house house 1 2;", 1, 6);
    Check.fault("house 1 2;", 1, 6);
    Check.fault("house a b 2;", 1, 8);
    Check.fault("house a 1;", 1, 9);
    Check.fault("house a 1 2 own own;", 1, 16);
    Check.fault("house a 1 2 own by 3;", 1, 16);
    Check.fault("house a 1 2 by;", 1, 14);
    Check.fault("house a 1 2 3;", 1, 12);
    Check.fault("house a -1 2;", 1, 8);
    Check.fault("dark k 1;", 1, 8);
    Check.fault("dark k 1 2 own;", 1, 11);
    Check.fault("seed;", 1, 4);
    Check.fault("seed x;", 1, 5);
    Check.fault(";", 1, 0);
    Check.fault("seed 1;;", 1, 7);
    Check.fault("a 1 2;", 1, 0);
    Check.fault("law glass 1;", 1, 4);
    Check.fault("law walk;", 1, 8);
    // the length, if more must come
    Check.fault("house", 1, 5);
    Check.fault("house a 1 2", 1, 11);
    Check.fault("house a 1 2  \n", 1, 14);
    Check.fault("law walk (1", 1, 11);
    Check.fault("law walk 1+", 1, 11);
    Check.fault("law", 1, 3);
  }

  static void faultsOfLaws() {
    Check.right("law walk not not 1 or 2 and not 3<4;law stay (1<2)<3;law may 1-2-3/4*5;law cat ((((((((1))))))));", 4);
    Check.fault("law walk 1<2<3;", 1, 12);
    Check.fault("law walk 1=2>3;", 1, 12);
    Check.fault("law walk 1< =2;", 1, 12);
    Check.fault("law walk 1==2;", 1, 11);
    Check.fault("law walk 1=<2;", 1, 11);
    Check.fault("law walk 1><2;", 1, 11);
    Check.right("law walk 1<>2;law stay 1>=2;law may 1<=2;", 3);
    Check.fault("law walk 1< >2;", 1, 12);
    Check.fault("law walk -1;", 1, 9);
    Check.fault("law walk 1+not 2;", 1, 11);
    Check.fault("law walk 1<not 2;", 1, 11);
    Check.fault("law walk 1 2;", 1, 11);
    Check.fault("law walk 1 not 2;", 1, 11);
    Check.fault("law walk (1;", 1, 11);
    Check.fault("law walk 1);", 1, 10);
    Check.fault("law walk ();", 1, 10);
    Check.fault("law walk own;", 1, 9);
    Check.fault("law walk x;", 1, 9);
    Check.fault("law walk 1 and;", 1, 14);
  }

  static void faultsOfTooMuch() {
    Check.fault("house a 100 1;", 2, 8);
    Check.fault("house a 99 100;", 2, 11);
    Check.fault("house a 1 1 by 0;", 2, 15);
    Check.fault("house a 1 1 by 241;", 2, 15);
    Check.fault("dark k 100 1;", 2, 7);
    Check.fault("dark k 99 10;", 2, 10);
    Check.fault("seed 100000;", 2, 5);
    Check.fault("seed 99999999999999999999999;", 2, 5);
    Check.fault("seed 4294967297;", 2, 5);
    Check.right("seed 99999;", 1);
    Check.fault("law cat 10000;", 2, 8);
    Check.right("law cat 9999;", 1);
    Check.fault("house a 1 1;house b 1 1;house c 1 1;house d 1 1;house e 1 1;house f 1 1;house f", 2, 72);
    Check.fault("dark a 1 1;dark b 1 1;dark c 1 1;dark !", 2, 33);
    Check.fault("law cat (((((((((1)))))))));", 2, 16);
    // ')' closes: eight at once, but more than eight in all
    Check.right("law cat ((((((((1))))))))+(((((((2)))))));", 1);
  }

  static String repeated(String part, int times) {
    StringBuilder all = new StringBuilder();
    for (int i = 0; i < times; i++) all.append(part);
    return all.toString();
  }

  static void knots() {
    FirstSill x = Check.street("law walk far+glass*minute-up/left<=worth and not home or 2;");
    Check.due("16 knots", x.count(2), 16);
    x = Check.street("law walk (((1)));law stay not not (1)<>2;");
    Check.due("knots of two laws, no brackets", x.count(2), 6);
    // 1 and 31 times "+1" are 63 knots, of another law is the 64th one
    String most = "law walk 1" + repeated("+1", 31) + ";";
    Check.right(most + "law cat 1;", 2);
    Check.fault(most + "law cat 1+1;", 2, most.length() + 9);
    Check.fault(most + "law cat not 1;", 2, most.length() + 12);
    Check.fault(most + "law cat not not 1;", 2, most.length() + 12);
    Check.fault(most + "law cat 1;law may up;", 2, most.length() + 18);
    Check.fault(most + "law cat 1;law may x;", 1, most.length() + 18);
    Check.fault(most + "law cat 1 1;", 1, most.length() + 10);
    Check.fault("law walk " + repeated("not ", 65) + "1;", 2, 9 + 64 * 4);
    Check.fault("law walk " + repeated("not ", 64) + "1;", 2, 9 + 64 * 4);
    Check.right("law walk " + repeated("not ", 63) + "1;", 1);
    Check.fault("law walk 1" + repeated("+1", 31) + " or 1;", 2, 76);
    Check.fault("law walk 1" + repeated("+1", 31) + "<1;", 2, 73);
  }

  static void faultsOfToldAlready() {
    Check.fault("house a 1 1;house a 1 1;", 3, 18);
    Check.fault("dark a 1 1;dark a 1 1;", 3, 16);
    Check.right("house a 1 1;dark a 1 1;", 2);
    Check.fault("seed 1;seed 2;", 3, 7);
    Check.fault("seed 1;seed !", 3, 7);
    Check.fault("law cat 1;law cat 1;", 3, 14);
    Check.fault("law may 1;law cat 1;law may !", 3, 24);
    // the first along the text
    Check.fault("house a 1 1;house a 100 !", 3, 18);
    Check.fault("house a 100 1;house a 1 1;!", 2, 8);
  }

  static int code(String name) {
    int code = 0;
    for (int i = 0; i < 6; i++) code = code * 32 + (i < name.length() ? name.charAt(i) - 'a' + 1 : 0);
    return code;
  }

  static void named() {
    FirstSill x = Check.street("house a 1 2;house zzzzzz 1 2;house bob 1 2;dark bob 1 2;dark a 1 2;");
    Check.due("named a", x.named(0, 1 << 25), 0);
    Check.due("named zzzzzz", x.named(0, code("zzzzzz")), 1);
    Check.due("named bob", x.named(0, (2 << 25) + (15 << 20) + (2 << 15)), 2);
    Check.due("named dark bob", x.named(1, code("bob")), 0);
    Check.due("named dark a", x.named(1, code("a")), 1);
    Check.due("named dark zzzzzz", x.named(1, code("zzzzzz")), -1);
    Check.due("named bo", x.named(0, code("bo")), -1);
    Check.due("named 0", x.named(0, 0), -1);
    Check.due("named 1", x.named(0, 1), -1);
    Check.due("named -1", x.named(0, -1), -1);
    Check.due("named(2)", x.named(2, code("a")), -1);
    Check.due("named(-1)", x.named(-1, code("a")), -1);
  }

  static long look(FirstSill x, int house, int what) {
    try {
      return x.look(house, what);
    } catch (IndexOutOfBoundsException e) {
      return -100;
    } catch (NoSuchElementException e) {
      return -200;
    }
  }

  static void look() {
    FirstSill x = Check.street("house a 11 12 by 13 own;house b 21 22;");
    int[] first = {11, 12, 13, 1, 0, 0};
    int[] second = {21, 22, 240, 0, 0, 0};
    for (int what = 0; what < 6; what++) {
      Check.due("look(0, " + what + ")", look(x, 0, what), first[what]);
      Check.due("look(1, " + what + ")", look(x, 1, what), second[what]);
    }
    x.glass(1, true);
    x.out(0, true);
    Check.due("look(0, 4)", look(x, 0, 4), 0);
    Check.due("look(1, 4)", look(x, 1, 4), 1);
    Check.due("look(0, 5)", look(x, 0, 5), 1);
    Check.due("look(2, 0)", look(x, 2, 0), -100);
    Check.due("look(-1, 0)", look(x, -1, 0), -100);
    Check.due("look(0, 6)", look(x, 0, 6), -200);
    Check.due("look(0, -1)", look(x, 0, -1), -200);
    Check.due("look(2, 6)", look(x, 2, 6), -100);
  }

  static void dark() {
    FirstSill x = Check.street("house a 1 2;house b 1 2;dark k 7 8;dark l 0 0;");
    Check.send(x, 0, 1, 0, 1);
    int[] first = {7, 8, 3, 1, 0, 1, -1};
    for (int what = 0; what < first.length; what++) Check.due("dark(0, " + what + ")", x.dark(0, what), first[what]);
    Check.due("dark(1, 2)", x.dark(1, 2), 0);
    Check.due("dark(1, 3)", x.dark(1, 3), -1);
    Check.due("dark(0, -1)", x.dark(0, -1), -1);
    Check.due("dark(2, 0)", x.dark(2, 0), -1);
    Check.due("dark(-1, 0)", x.dark(-1, 0), -1);
    Check.due("dark(0, most)", x.dark(0, Integer.MAX_VALUE), -1);
  }

  static void count() {
    FirstSill x = Check.street("house a 1 2 own;house b 5 2;house c 99 2 by 9;dark k 0 8;dark l 0 0;law walk far*1;");
    int[] none = {3, 2, 3, 0, 0, 0, 0, 0};
    for (int what = 0; what < 8; what++) Check.due("count(" + what + ")", x.count(what), none[what]);
    Check.send(x, 0, 1, 2);
    x.out(0, true);
    x.track(0, 0, 1);
    x.strike(0);
    x.known(1);
    x.night();
    // c is DONE behind its BY, and is DONE all the same
    int[] some = {3, 2, 3, 3, 2, 1, 3, 1};
    for (int what = 0; what < 8; what++) Check.due("count(" + what + ")", x.count(what), some[what]);
    x.known(-1);
    Check.due("count(5) by all", x.count(5), 2);
    Check.due("count(8)", x.count(8), -1);
    Check.due("count(-1)", x.count(-1), -1);
  }

  public static void main(String[] args) {
    newObject();
    feed();
    text();
    cutText();
    lines();
    joinedTokens();
    faultsOfTokens();
    faultsOfLaws();
    faultsOfTooMuch();
    knots();
    faultsOfToldAlready();
    named();
    look();
    dark();
    count();
    Check.end();
  }
}
