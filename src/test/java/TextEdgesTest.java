import java.util.Arrays;
import java.util.List;

/**
 * The edges that "Terms" (to the FAULTS) and promises 1 to 7 name, sentence by sentence: the last value that is
 * allowed and the first that is not, the empty and the full. What is refused is in RefusedTest once more.
 */
public final class TextEdgesTest {
  static final String NAMES = "far glass minute up left worth home";
  static final String RELATIONS = "< <= = <> >= >";
  static final String WORDS = "house by own dark seed law walk stay may cat or and not " + NAMES;
  /** The first is a W, the second an N; the last three are no TOKENS. */
  static final String TOKENS = "x 7 " + WORDS + " " + RELATIONS + " + - * / ( ) ; ! A abcdefg";

  static String[] each(String words) { return words.split(" "); }

  // ---- "Words: small letters in a row; W: one of 1 .. 6 letters, none of those of the language; N: digits. Blanks 10, 32."

  static void everyByteBetweenTokens() {
    for (int c = 0; c < 256; c++) {
      String text = "house a 1 2" + (char) c + ";";
      if (c == 10 || c == 32 || c >= '0' && c <= '9') Check.right(text, 1);
      else if (c == ';') Check.fault(text, 1, 12);
      else Check.fault(text, 1, 11);
    }
  }

  static void everyByteInAWord() {
    for (int c = 0; c < 256; c++) {
      String text = "house a" + (char) c + "b 1 2;";
      boolean letter = c >= 'a' && c <= 'z';
      boolean apart = c == 10 || c == 32 || c >= '0' && c <= '9';
      if (letter) Check.right(text, 1);
      else Check.fault(text, 1, apart ? 8 : 7);
    }
  }

  static void everyByteInANumber() {
    for (int c = 0; c < 256; c++) {
      String text = "seed 1" + (char) c + "2;";
      if (c >= '0' && c <= '9') Check.right(text, 1);
      else if (c == 10 || c == 32 || c == ';') Check.fault(text, 1, 7);
      else Check.fault(text, 1, 6);
    }
  }

  /** Whatever number was told ahead: what is no TOKEN is none where an N must come, too. */
  static void everyByteInPlaceOfANumber() {
    for (int c = 0; c < 256; c++) {
      boolean blank = c == 10 || c == 32;
      boolean digit = c >= '0' && c <= '9';
      String text = "seed 99999;house a " + (char) c + ";";
      Check.fault(text, 1, blank || digit ? 20 : 19);
      text = "seed 99999;law walk 1+" + (char) c + ";";
      if (digit) Check.right(text, 2);
      else Check.fault(text, 1, blank || c == '(' ? 23 : 22);
    }
    for (String name : each(NAMES)) Check.right("seed 99999;law walk " + name + ";", 2);
  }

  static void blanksAnywhere() {
    Check.right("\n \n", 0);
    Check.right(" \n house\n\n a \n1  2\nby\n3 own ; ", 1);
    Check.right("law walk\n(\n1\n<=\n2\n)\n;\n", 1);
    // "or > behind < right behind": with a blank they are two
    Check.fault("law walk 1<\n=2;", 1, 12);
    Check.fault("law walk 1< >2;", 1, 12);
    Check.fault("law walk 1> =2;", 1, 12);
  }

  static void signsThatBelongTogether() {
    for (String sign : each("< <= = <> >= >")) Check.right("law walk 1" + sign + "2;", 1);
    for (String sign : each("<< <=> <== <>= <>> >> >== >=> >=<")) {
      Check.fault("law walk 1" + sign + "2;", 1, sign.equals("<<") || sign.equals(">>") ? 11 : 12);
    }
    for (String sign : each("=< => == ><")) Check.fault("law walk 1" + sign + "2;", 1, 11);
  }

  static void wordsOfOneToSixLetters() {
    for (String name : each("a z az zzzzzz abcdef aaaaaa")) {
      Check.right("house " + name + " 1 2;", 1);
      Check.right("dark " + name + " 1 2;", 1);
    }
    for (String name : each("abcdefg zzzzzzz minutes houseof " + Check.repeated("a", 32) + " " + Check.repeated("z", 500))) {
      Check.fault("house " + name + " 1 2;", 1, 6);
      Check.fault("dark " + name + " 1 2;", 1, 5);
      Check.fault(name + " 1 2;", 1, 0);
      Check.fault("law walk " + name + ";", 1, 9);
      Check.fault("law " + name + " 1;", 1, 4);
    }
  }

  static void wordsOfTheLanguage() {
    for (String word : each(WORDS)) {
      Check.fault("house " + word + " 1 2;", 1, 6);
      Check.fault("dark " + word + " 1 2;", 1, 5);
      String less = word.substring(0, word.length() - 1);
      if (!Arrays.asList(each(WORDS)).contains(less)) Check.right("house " + less + " 1 2;", 1);
      if (word.length() < 6) Check.right("dark " + word + "x 1 2;house x" + word + " 1 2;", 2);
    }
  }

  // ---- "A TEXT: { LINE ';' }. LINE: ..", "E: ..": what may stand behind what

  static final String[][] GRAMMAR = {
    {"", "house dark seed law"},
    {"house a 1 2;", "house dark seed law"},
    {"house", "x"}, {"house a", "7"}, {"house a 1", "7"}, {"house a 1 2", "by own ;"}, {"house a 1 2 by", "7"},
    {"house a 1 2 by 3", "own ;"}, {"house a 1 2 own", ";"}, {"house a 1 2 by 3 own", ";"},
    {"dark", "x"}, {"dark k", "7"}, {"dark k 1", "7"}, {"dark k 1 2", ";"},
    {"seed", "7"}, {"seed 1", ";"},
    {"law", "walk stay may cat"},
    {"law walk", "7 ( not " + NAMES}, {"law walk (", "7 ( not " + NAMES},
    {"law walk not", "7 ( not " + NAMES}, {"law walk not not", "7 ( not " + NAMES}, {"law walk 1 < 2 or not", "7 ( not " + NAMES},
    {"law walk 1 and", "7 ( not " + NAMES}, {"law walk 1 or", "7 ( not " + NAMES},
    {"law walk 1 +", "7 ( " + NAMES}, {"law walk 1 -", "7 ( " + NAMES},
    {"law walk 1 *", "7 ( " + NAMES}, {"law walk 1 /", "7 ( " + NAMES},
    {"law walk 1 <", "7 ( " + NAMES}, {"law walk 1 <=", "7 ( " + NAMES}, {"law walk 1 =", "7 ( " + NAMES},
    {"law walk 1 <>", "7 ( " + NAMES}, {"law walk 1 >=", "7 ( " + NAMES}, {"law walk 1 >", "7 ( " + NAMES},
    {"law walk 1", "+ - * / and or ; " + RELATIONS}, {"law walk far", "+ - * / and or ; " + RELATIONS},
    {"law walk (1)", "+ - * / and or ; " + RELATIONS}, {"law walk (1 < 2)", "+ - * / and or ; " + RELATIONS},
    {"law walk 1 + 2", "+ - * / and or ; " + RELATIONS}, {"law walk 1 * 2", "+ - * / and or ; " + RELATIONS},
    {"law walk not 1", "+ - * / and or ; " + RELATIONS}, {"law walk 1 < 2 and 3", "+ - * / and or ; " + RELATIONS},
    {"law walk 1 < 2", "+ - * / and or ;"}, {"law walk not 1 < 2", "+ - * / and or ;"},
    {"law walk 1 < 2 + 3", "+ - * / and or ;"}, {"law walk 1 = 2 * 3", "+ - * / and or ;"},
    {"law walk (1", "+ - * / and or ) " + RELATIONS}, {"law walk (1 < 2", "+ - * / and or )"},
    {"law walk 1 < (2", "+ - * / and or ) " + RELATIONS}, {"law walk ((1)", "+ - * / and or ) " + RELATIONS},
  };

  /** "1 a TOKEN that is none .. or can't stand there (the length, if more must come)." */
  static void everyTokenBehindEachBeginning() {
    for (String[] row : GRAMMAR) {
      List<String> allowed = Arrays.asList(each(row[1]));
      for (String token : each(TOKENS)) {
        String text = row[0] + " " + token;
        if (!allowed.contains(token)) Check.fault(text, 1, row[0].length() + 1);
        else if (token.equals(";")) Check.right(text, 1);
        else Check.fault(text, 1, text.length());
      }
    }
  }

  static void theLengthIfMoreMustCome() {
    for (String[] row : GRAMMAR) {
      boolean whole = row[0].isEmpty() || row[0].endsWith(";");
      for (String blanks : new String[] {"", " ", " \n \n  "}) {
        if (whole) Check.right(row[0] + blanks, row[0].isEmpty() ? 0 : 1);
        else Check.fault(row[0] + blanks, 1, row[0].length() + blanks.length());
      }
    }
    // the length is that of the TEXT, not of the TAPE
    FirstSill x = new FirstSill();
    Check.feed(x, "house a 1 2;house b 1 2;");
    Check.due("text(22)", x.text(22), -1);
    Check.due("more must come at the 22nd byte", x.fault(1), 22);
  }

  // ---- "FAULTS, the first along the text (of one place the least), with its place"

  static void theFirstAlongTheText() {
    Check.fault("house a 100 !", 2, 8);
    Check.fault("house a ! 100", 1, 8);
    Check.fault("house a 1 1;house a 100 1;", 3, 18);
    Check.fault("house a 1 100;house a 1 1;", 2, 10);
    Check.fault("house a 1 1;house a", 3, 18);
    Check.fault("seed 1;seed", 3, 7);
    Check.fault("seed 1;seed 100000;", 3, 7);
    Check.fault("seed 100000;seed 1;", 2, 5);
    Check.fault("law may 1;law may", 3, 14);
    Check.fault("law may 1;law may 10000;", 3, 14);
    Check.fault("law may 10000;law may 1;", 2, 8);
    Check.fault("law may 1 1;law may 1;", 1, 10);
    String six = houses(6);
    Check.fault(six + "house", 2, six.length());
    Check.fault(six + "house a 1 1;", 2, six.length());
    Check.fault(six + "house !", 2, six.length());
  }

  static void ofOnePlaceTheLeast() {
    // what can't stand there is fault 1, though it is too much as well
    Check.fault("house 100 1;", 1, 6);
    Check.fault("house a 1 2 100000;", 1, 12);
    Check.fault("law walk 1 10000;", 1, 11);
    Check.fault("law walk ((((((((1(", 1, 18);
    Check.fault("law walk 1" + Check.repeated("+1", 31) + "+1 2;", 2, 73);
    Check.fault("law walk 1" + Check.repeated("+1", 31) + " not 1;", 1, 73);
    Check.fault("law walk not 1" + Check.repeated("+1", 31) + " 1;", 1, 77);
    Check.fault("law walk not 1" + Check.repeated("+1", 31) + " far;", 1, 77);
    Check.fault("law walk 1<2" + Check.repeated("+1", 30) + " or < 1;", 1, 76);
    // told already, but a word that can't stand there
    Check.fault("house a 1 1;house abcdefg 1 1;house abcdefg 1 1;", 1, 18);
    Check.fault("law may 1;law house 1;", 1, 14);
    String six = houses(6);
    Check.fault(six + "house a 1 1 house", 2, six.length());
    Check.fault("house a 1 1 house", 1, 12);
    Check.fault("seed 1 seed 1;", 1, 7);
  }

  // ---- "2 too much (at it): a number beyond what is said"

  static void number(String ahead, String behind, int least, int most) {
    String last = "" + most;
    for (String told : new String[] {"" + least, "000" + least, last, "0" + last, "00000000000000000000" + last}) {
      Check.right(ahead + told + behind, 1);
    }
    // what would be within it again, if the number wrapped around in an int or a long
    long wrapped = (1L << 32) + most;
    String[] tooMuch = {"" + (most + 1), "0" + (most + 1), last + "0", "2147483647", "2147483648", "4294967296", "" + wrapped,
      "9223372036854775807", "9223372036854775808", "18446744073709551616", "18446744073709551617", Check.repeated("9", 400)};
    for (String told : tooMuch) Check.fault(ahead + told + behind, 2, ahead.length());
    if (least > 0) Check.fault(ahead + (least - 1) + behind, 2, ahead.length());
    if (least > 0) Check.fault(ahead + "000" + behind, 2, ahead.length());
  }

  static void numbers() {
    number("house a ", " 0;", 0, 99);
    number("house a 0 ", ";", 0, 99);
    number("house a 0 ", " by 1 own;", 0, 99);
    number("house a 0 0 by ", ";", 1, 240);
    number("house a 0 0 by ", " own;", 1, 240);
    number("dark k ", " 0;", 0, 99);
    number("dark k 0 ", ";", 0, 9);
    number("seed ", ";", 0, 99999);
    number("law walk ", ";", 0, 9999);
    number("law cat (far+", ")*2;", 0, 9999);
    number("law may not ", " and 1;", 0, 9999);
  }

  static void numbersAsTheyAreTold() {
    FirstSill x = Check.street("house a 0 0 by 1;house b 99 99 by 240 own;house c 050 007;dark k 0 0;dark l 99 9;dark m 1 2;");
    int[][] due = {{0, 0, 1, 0}, {99, 99, 240, 1}, {50, 7, 240, 0}};
    for (int h = 0; h < 3; h++) {
      for (int what = 0; what < 4; what++) Check.due("look(" + h + ", " + what + ")", Check.look(x, h, what), due[h][what]);
    }
    int[][] darks = {{0, 0}, {99, 9}, {1, 2}};
    for (int d = 0; d < 3; d++) {
      for (int what = 0; what < 2; what++) Check.due("dark(" + d + ", " + what + ")", x.dark(d, what), darks[d][what]);
    }
    x = Check.street("house a 0 0;dark k 0 0;law walk 9999/100;law stay 09/1;law cat 0;");
    Check.due("N 9999 of E", x.walk(0, -1, 0, 1, 0), 99);
    Check.due("N 09 of E", x.stays(0, 0, 1, 0, 0), 9);
    Check.due("N 0 of E", x.cat(0, 1), 0);
  }

  // ---- "2 .. a seventh house and so on (at the word of the LINE)"

  static String houses(int n) {
    StringBuilder text = new StringBuilder();
    for (int i = 0; i < n; i++) text.append("house ").append((char) ('a' + i)).append(" 1 1;");
    return text.toString();
  }

  static String darks(int n) {
    StringBuilder text = new StringBuilder();
    for (int i = 0; i < n; i++) text.append("dark ").append((char) ('a' + i)).append(" 1 1;");
    return text.toString();
  }

  static void sixHousesThreeDarkOnes() {
    for (int n = 0; n <= 6; n++) {
      FirstSill x = Check.street(houses(n) + darks(3));
      Check.due("count(0) of " + n, x.count(0), n);
      Check.due("look(" + n + ", 0) is none", Check.look(x, n, 0), Check.NO_HOUSE);
      if (n > 0) Check.due("the last one of " + n, Check.look(x, n - 1, 0), 1);
    }
    for (int n = 0; n <= 3; n++) {
      FirstSill x = Check.street(darks(n) + houses(6));
      Check.due("count(1) of " + n, x.count(1), n);
      Check.due("dark(" + n + ", 0) is none", x.dark(n, 0), -1);
      if (n > 0) Check.due("the last one of " + n, x.dark(n - 1, 0), 1);
    }
    Check.fault(houses(7), 2, 72);
    Check.fault("  " + houses(7), 2, 74);
    Check.fault(darks(4), 2, 33);
    Check.fault(houses(6) + darks(3) + "dark z 0 0;", 2, 105);
    Check.fault(darks(3) + houses(6) + "house z 0 0;", 2, 105);
    Check.right(houses(6) + darks(3) + "seed 1;law walk 1;law stay 1;law may 1;law cat 1;", 14);
  }

  // ---- "a ninth '(' open"

  static void eightOpen() {
    for (int n = 0; n <= 8; n++) Check.right("law walk " + Check.repeated("(", n) + "1" + Check.repeated(")", n) + ";", 1);
    Check.fault("law walk " + Check.repeated("(", 9) + "1" + Check.repeated(")", 9) + ";", 2, 17);
    Check.fault("law walk " + Check.repeated("(", 9), 2, 17);
    Check.fault("law walk " + Check.repeated("( ", 9), 2, 25);
    Check.right("law walk " + Check.repeated("(", 8) + "1" + Check.repeated(")", 8) + "+" + Check.repeated("(", 8) + "1"
        + Check.repeated(")", 8) + ";", 1);
    Check.right("law walk " + Check.repeated("(", 7) + "(1)+(1)<(1) and (not 1)" + Check.repeated(")", 7) + ";", 1);
    Check.fault("law walk " + Check.repeated("(", 7) + "(1)+(1)<(1) and (not (1))" + Check.repeated(")", 7) + ";", 2, 37);
    Check.right("law walk " + Check.repeated("(", 8) + "1" + Check.repeated(")", 8) + ";law stay " + Check.repeated("(", 8) + "1"
        + Check.repeated(")", 8) + ";", 2);
    Check.fault("law walk 1+" + Check.repeated("(1+", 8) + "(1", 2, 11 + 8 * 3);
    Check.fault("law walk " + Check.repeated("not (", 9) + "1", 2, 9 + 8 * 5 + 4);
    Check.fault("law walk " + Check.repeated("(", 8) + "1)+(1+(2", 2, 9 + 8 + 6);
  }

  // ---- "a 65th KNOT of all E (N, NAMES, signs, not, and, or: one each)"

  /** 63 KNOTS. */
  static final String ODD = "law walk 1" + Check.repeated("+1", 31);
  /** 64 KNOTS. */
  static final String EVEN = "law walk not 1" + Check.repeated("+1", 31);

  static void sixtyFourKnots() {
    FirstSill x = Check.street(EVEN + ";");
    Check.due("64 KNOTS", x.count(2), 64);
    Check.due("63 KNOTS", Check.street(ODD + ";").count(2), 63);
    Check.due("no KNOTS", Check.street("seed 1;").count(2), 0);
    Check.due("one KNOT", Check.street("law may up;").count(2), 1);
    for (String operand : each("1 " + NAMES)) {
      Check.fault(ODD + "+" + operand + ";", 2, ODD.length() + 1);
      Check.fault(ODD + " and " + operand + ";", 2, ODD.length() + 5);
      Check.fault(EVEN + ";law cat " + operand + ";", 2, EVEN.length() + 9);
      Check.right(ODD + ";law cat " + operand + ";", 2);
    }
    for (String sign : each("+ - * / and or " + RELATIONS)) Check.fault(EVEN + " " + sign + " 1;", 2, EVEN.length() + 1);
    Check.fault(ODD + " and not 1;", 2, ODD.length() + 5);
    Check.fault(EVEN + ";law may not 1;", 2, EVEN.length() + 9);
    for (String sign : each("+ - * / and or " + RELATIONS)) {
      Check.due("a KNOT each: " + sign, Check.street("law walk 1 " + sign + " 2;").count(2), 3);
    }
    Check.due("brackets are none", Check.street("law walk ((((((((1))))))));").count(2), 1);
  }

  static void knotsOfAllLaws() {
    String sixteen = "not 1+1+1+1+1+1+1+1";
    String four = "law walk " + sixteen + ";law stay " + sixteen + ";law may " + sixteen + ";law cat " + sixteen;
    FirstSill x = Check.street(four + ";");
    Check.due("64 KNOTS of four laws", x.count(2), 64);
    Check.fault(four + "+1;", 2, four.length());
    // what a TEXT ahead had doesn't count
    Check.due("told once more", Check.tell(x, four + ";"), 4);
    Check.due("64 KNOTS again", x.count(2), 64);
    Check.due("with a FAULT", Check.tell(x, EVEN + "+1;"), -1);
    Check.due("and once more", Check.tell(x, EVEN + ";"), 1);
  }

  // ---- "3 told already: a name of its kind (at W), seed (at the word), a law of its KIND (at KIND)"

  static void toldAlready() {
    Check.fault("house a 1 1;house b 1 1;house a 1 1;", 3, 30);
    Check.fault("house a 1 1;house b 1 1;house b 1 1;", 3, 30);
    Check.fault(houses(5) + "house e 1 1;", 3, 66);
    Check.fault("dark a 1 1;dark b 1 1;dark a 1 1;", 3, 27);
    Check.fault("dark a 1 1;dark b 1 1;dark b 1 1;", 3, 27);
    Check.fault("house abcdef 1 1;house abcdef 1 1;", 3, 23);
    Check.right("house abcdef 1 1;house abcdeg 1 1;house abcde 1 1;house bbcdef 1 1;house aa 1 1;house a 1 1;", 6);
    Check.right("house a 1 1;dark a 1 1;house b 1 1;dark b 1 1;", 4);
    Check.fault("seed 0;seed 0;", 3, 7);
    Check.fault("seed 5;house a 1 1;seed 5;", 3, 19);
    for (String kind : each("walk stay may cat")) {
      for (String other : each("walk stay may cat")) {
        String text = "law " + kind + " 0;law " + other + " 0;";
        if (kind.equals(other)) Check.fault(text, 3, kind.length() + 11);
        else Check.right(text, 2);
      }
    }
    // what a TEXT ahead told isn't told already
    FirstSill x = Check.street("house a 1 1;dark a 1 1;seed 1;law may 1;");
    Check.due("the same once more", Check.tell(x, "house a 1 1;dark a 1 1;seed 1;law may 1;"), 4);
    Check.due("with a FAULT", Check.tell(x, "house b 1 1;dark b 1 1;seed 1;law cat 1;!"), -1);
    Check.due("what had a FAULT isn't told", Check.tell(x, "house b 1 1;dark b 1 1;seed 1;law cat 1;"), 4);
  }

  // ---- "240 without", "seed: 0 .. 99999 (0)", "OWN or not"

  static void whatIsntTold() {
    FirstSill x = Check.street("house a 1 2;house b 1 2 own;house c 1 2 by 240;");
    Check.due("BY without", Check.look(x, 0, 2), 240);
    Check.due("BY without, OWN", Check.look(x, 1, 2), 240);
    Check.due("not OWN", Check.look(x, 0, 3), 0);
    Check.due("OWN", Check.look(x, 1, 3), 1);
    Check.same("seed without is 0", Seen.of(Check.street("house a 1 2;law cat 300;")),
        Seen.of(Check.street("house a 1 2;law cat 300;seed 0;")));
  }

  // ---- Promise 1: "A TEXT without LINES; an empty TAPE."

  static void newObject() {
    FirstSill x = new FirstSill();
    Check.due("an empty TAPE", x.text(1), -2);
    for (int what = 0; what < 8; what++) Check.due("count(" + what + ")", x.count(what), 0);
    Check.due("fault(0)", x.fault(0), 0);
    Check.due("fault(1)", x.fault(1), -1);
    Check.due("look(0, 0)", Check.look(x, 0, 0), Check.NO_HOUSE);
    int[] none = {x.named(0, 0), x.named(1, 0), x.dark(0, 0), x.walk(0, -1, 0, 1, 0), x.stays(0, 0, 1, 0, 0), x.cat(0, 1),
      x.send(0, 0), x.drop(0), x.done(0, 0), x.where(0, 1), x.was(0, 0), x.chance(0, 0), x.best(1), x.chosen(0, 0, 0), x.price(0),
      x.all(1), x.after(0, 0), x.track(0, 0, 1), x.strike(0), x.tales(0), x.tale(0, 0, 0), x.tried(3, 0), x.tried(4, 0), x.undo(),
      x.back()};
    for (int i = 0; i < none.length; i++) Check.due("NONE of a new object, call " + i, none[i], -1);
    int[] nothing = {x.gain(), x.night(), x.best(0), x.many(), x.which(0), x.which(1), x.which(2), x.climb(), x.refusal(0),
      x.refusal(1), x.tried(0, 0), x.tried(1, 0), x.tried(2, 0), x.tried(5, 0)};
    for (int i = 0; i < nothing.length; i++) Check.due("0 of a new object, call " + i, nothing[i], 0);
    for (int what = 0; what < 5; what++) Check.due("exchange(" + what + ")", x.exchange(what), -2);
    Check.due("all(0)", x.all(0), 1);
    Check.due("glass", x.glass(0, true), false);
    Check.due("out", x.out(0, true), false);
    Check.due("known(0)", x.known(0), true);
    Check.due("known(-1)", x.known(-1), true);
    Check.due("known(1)", x.known(1), false);
    Check.due("keep()", x.keep(), 0);
    Check.due("back()", x.back(), 0);
    Check.due("a night without HOUSES counts", x.count(7), 1);
    Check.same("as a TEXT without LINES", Seen.of(new FirstSill()), Seen.of(Check.street("")));
  }

  // ---- Promise 2: "Twenty bytes come behind the TAPE, four of each number, the highest first: how many it has"

  static void bytesInTheirOrder() {
    FirstSill x = new FirstSill();
    Check.due("feed", x.feed(0x64617263, 0x6b206b20, 0x31322039, 0x3b202020, 0x20202020), 20);
    Check.due("'darc'", x.text(20), -1);
    Check.due("feed", x.feed(0x6461726b, 0x206b2031, 0x3220393b, 0x73656564, 0x2034333b), 20);
    Check.due("two LINES", x.text(20), 2);
    Check.due("12", x.dark(0, 0), 12);
    Check.due("9", x.dark(0, 1), 9);
    // each of the twenty: the byte 255 stands at its place, whatever the sign of its number
    for (int i = 0; i < 20; i++) {
      int[] n = new int[5];
      for (int k = 0; k < 20; k++) n[k / 4] = n[k / 4] << 8 | (k == i ? 255 : 32);
      x.feed(n[0], n[1], n[2], n[3], n[4]);
      Check.due("a byte of 255", x.text(20), -1);
      Check.due("the place of byte " + i, x.fault(1), i);
    }
  }

  static void sixHundredBytes() {
    FirstSill x = new FirstSill();
    Check.feed(x, Check.repeated(" ", 300) + "house a 1 2;" + Check.repeated("\n", 268));
    Check.due("580 bytes: text(581)", x.text(581), -2);
    Check.due("600 is allowed", x.feed(0x20202020, 0x20202020, 0x20206461, 0x726b206b, 0x20332034), 600);
    Check.due("620 is not", x.feed(0x3b3b3b3b, 0x3b3b3b3b, 0x3b3b3b3b, 0x3b3b3b3b, 0x3b3b3b3b), -1);
    Check.due("nor again", x.feed(0x3b3b3b3b, 0x3b3b3b3b, 0x3b3b3b3b, 0x3b3b3b3b, 0x3b3b3b3b), -1);
    Check.due("none came: text(601)", x.text(601), -2);
    Check.due("text(620)", x.text(620), -2);
    Check.due("the last byte is as it was: more must come", x.text(600), -1);
    Check.due("at 600", x.fault(1), 600);
    Check.due("it is empty then", x.feed(0, 0, 0, 0, 0), 20);
    x = new FirstSill();
    Check.feed(x, Check.repeated(" ", 588) + "house a 1 2;");
    Check.due("refused", x.feed(0, 0, 0, 0, 0), -1);
    Check.due("a ';' at the 600th byte", x.text(600), 1);
    Check.due("behind it there is room again", x.feed(0, 0, 0, 0, 0), 20);
  }

  // ---- Promise 3

  /** "The TAPE's first n bytes (it is empty then) are the TEXT". */
  static void firstBytes() {
    FirstSill x = new FirstSill();
    Check.feed(x, "seed 1;seed 1;");
    Check.due("text(7)", x.text(7), 1);
    Check.due("it is empty then", x.text(1), -2);
    Check.feed(x, "seed 1;seed 1;");
    Check.due("text(0) of 20", x.text(0), 0);
    Check.due("it is empty then", x.text(1), -2);
    Check.feed(x, "seed 1;seed 1;");
    Check.due("text(8): 's'", x.text(8), -1);
    Check.due("can't stand there", x.fault(1), 7);
    Check.due("it is empty with a FAULT too", x.text(1), -2);
    Check.due("and filled from its begin on", x.feed(0x73656564, 0x20313b20, 0x20202020, 0x20202020, 0x20202020), 20);
    Check.due("all the bytes", x.text(20), 1);
  }

  /** "-2, and the TAPE stays: there are not so many, n is below 0." */
  static void notSoMany() {
    FirstSill x = new FirstSill();
    Check.due("of none: 1", x.text(1), -2);
    Check.due("of none: 0", x.text(0), 0);
    Check.feed(x, "dark k 1 2;!        ");
    for (int n : new int[] {-1, -2, Integer.MIN_VALUE, 21, 22, 600, Integer.MAX_VALUE}) {
      Check.due("text(" + n + ") of 20", x.text(n), -2);
      Check.due("the FAULT stays none", x.fault(0), 0);
      Check.due("nothing is told", x.count(1), 0);
    }
    Check.due("the TAPE stayed", x.text(11), 1);
    Check.feed(x, "dark k 1 2;!");
    Check.due("a FAULT", x.text(20), -1);
    Check.feed(x, "dark k 1 2;!");
    Check.due("text(21)", x.text(21), -2);
    Check.due("fault(0) of the latest that was not -2", x.fault(0), 1);
    Check.due("fault(1) of it", x.fault(1), 11);
    Check.due("dark ones stay", x.count(1), 1);
  }

  static final String STREET = "house a 10 9 own;house b 30 7 by 40;house c 50 5 own;dark k 20 5;dark l 60 2;law cat 9;seed 5;";

  static FirstSill used() {
    FirstSill x = Check.street(STREET);
    Check.send(x, 0, 2, 1, 0);
    Check.send(x, 1, 0);
    x.glass(1, true);
    x.out(0, true);
    x.night();
    x.keep();
    x.night();
    x.send(1, 1);
    x.track(0, 1, 33);
    x.strike(0);
    x.known(1);
    return x;
  }

  /** "(empty rows, no GLASS REFUSED, nobody OUT, no NIGHT, no TRACKS, all KNOWN, no IMAGE, nothing to undo then)". */
  static void allIsNew() {
    FirstSill x = used();
    Check.due("told once more", Check.tell(x, STREET), 7);
    Check.same("all is as of a new object", Seen.of(x), Seen.of(Check.street(STREET)));
    x = used();
    Check.due("told once more", Check.tell(x, STREET), 7);
    x.track(0, 1, 33);
    x.track(0, 1, 33);
    Check.due("all KNOWN, those to come too", x.count(5), 2);
    x = used();
    Check.due("a street without", Check.tell(x, ""), 0);
    Check.same("nothing is left", Seen.of(x), Seen.of(new FirstSill()));
    x = used();
    Check.tell(x, "!");
    Check.tell(x, STREET);
    Check.due("no FAULT any more", x.fault(0), 0);
    Check.due("nor its place", x.fault(1), -1);
  }

  /** The same of as many as there can be: six HOUSES, three DARK ones with rows of nine, 24 TRACKS, 20 to undo. */
  static void allOfTheMostIsNew() {
    String text = "house a 1 1 own;house b 2 2 own;house c 3 3 own;house d 4 4 own;house e 5 5 own;house f 6 6 own;"
        + "dark k 1 9;dark l 2 9;dark m 3 9;law cat 100;";
    FirstSill x = Check.street(text);
    for (int d = 0; d < 3; d++) Check.send(x, d, 0, 1, 2, 3, 4, 5, 0, 1, 2);
    for (int h = 0; h < 6; h++) {
      x.glass(h, true);
      x.out(h, true);
    }
    for (int i = 0; i < 24; i++) x.track(i % 3, i % 6, 1 + i);
    x.known(24);
    x.night();
    x.keep();
    x.best(3);
    Check.due("told once more", Check.tell(x, text), 10);
    for (int d = 0; d < 3; d++) {
      Check.due("an empty row", x.dark(d, 2), 0);
      Check.due("no HOUSE in it", x.dark(d, 3), -1);
      Check.due("all COAL", x.after(d, 2), 9);
      Check.due("all TALES", x.tales(d), 1957);
    }
    for (int h = 0; h < 6; h++) {
      Check.due("no GLASS REFUSED", Check.look(x, h, 4), 0);
      Check.due("nobody OUT", Check.look(x, h, 5), 0);
      Check.due("DONE by nobody", x.done(h, 0), -1);
      Check.due("no NIGHT", x.was(h, 0), -4);
    }
    int[] due = {6, 3, 1, 0, 0, 0, 0, 0};
    for (int what = 0; what < 8; what++) Check.due("count(" + what + ")", x.count(what), due[what]);
    Check.due("best", x.best(3), 21);
    Check.due("no IMAGE", x.back(), -1);
    Check.due("nothing to undo", x.undo(), -1);
  }

  /** What the TEXT doesn't tell is as without, whatever a TEXT ahead told: one that was read to its end, or to a FAULT. */
  static void nothingIsLeftOfATextAhead() {
    String rich = "house a 1 99 by 3 own;house b 2 98 by 4 own;house c 3 97 by 5 own;dark k 7 9;dark l 8 8;seed 777;"
        + "law walk 3;law stay 4;law may worth>97;law cat 500;";
    String[] plain = {"house a 10 9;house b 30 7;house c 50 5;dark k 20 5;dark l 60 2;",
      "house b 30 7;dark l 20 5;law cat 300;", "dark l 1 1;", "house c 4 4;law may 1;", "seed 3;house a 10 9 own;dark k 20 5;law cat 9;"};
    for (String text : plain) {
      String due = Seen.of(Check.street(text));
      FirstSill x = Check.street(rich);
      // what is worked out for the TEXT ahead is no answer for this one
      x.best(2);
      x.tales(1);
      x.exchange(0);
      x.night();
      Check.tell(x, text);
      Check.same("behind a rich TEXT: " + text, Seen.of(x), due);
      x = new FirstSill();
      x.best(0);
      Check.due("a rich TEXT with a FAULT", Check.tell(x, rich + "!"), -1);
      Check.tell(x, text);
      Check.same("behind a FAULT: " + text, Seen.of(x), due);
    }
  }

  /** "how many LINES; NONE with a FAULT, all else stays". */
  static void allElseStays() {
    String seen = Seen.allButText(used());
    String[] wrong = {"!", "house", STREET + "!", STREET + "house d 1", "house z 1 1;dark z 1 1;seed 9;law walk 1;law may 0;;",
      "house z 1 1 by 0;", "dark z 1 10;", "seed 7;seed 8;", "law stay 9;law cat 1/0;law stay 9;", houses(7), darks(4), EVEN + "+1;",
      "law may ((((((((("};
    for (String text : wrong) {
      FirstSill x = used();
      Check.due("text of \"" + text + "\"", Check.tell(x, text), -1);
      Check.same("all else stays behind \"" + text + "\"", Seen.allButText(x), seen);
    }
    for (int lines = 0; lines <= 14; lines++) {
      Check.right((houses(6) + darks(3) + "seed 1;law may 1;law cat 1;law stay 1;law walk 1;").substring(0, lineEnd(lines)), lines);
    }
  }

  static int lineEnd(int lines) {
    int[] ends = {0, 12, 24, 36, 48, 60, 72, 83, 94, 105, 112, 122, 132, 143, 154};
    return ends[lines];
  }

  // ---- Promise 4: "what 0: its FAULT (0), 1: its place (NONE without). NONE for another what."

  static void fault() {
    for (String text : new String[] {"", "seed 1;", "!", "seed 100000;", "seed 1;seed"}) {
      FirstSill x = new FirstSill();
      Check.tell(x, text);
      for (int what : new int[] {-1, 2, 3, Integer.MIN_VALUE, Integer.MAX_VALUE}) Check.due("fault(" + what + ")", x.fault(what), -1);
    }
    FirstSill x = new FirstSill();
    int[][] due = {{1, 0}, {2, 5}, {3, 7}, {0, -1}, {1, 4}};
    String[] texts = {"!", "seed 100000;", "seed 1;seed", "seed 1;", "seed"};
    for (int i = 0; i < texts.length; i++) {
      Check.tell(x, texts[i]);
      Check.due("fault(0)", x.fault(0), due[i][0]);
      Check.due("fault(1)", x.fault(1), due[i][1]);
    }
  }

  // ---- Promise 5: "5 bits each (a is 1; the first one highest of six, 0 behind the last one)"

  static void named() {
    FirstSill x = Check.street("house a 1 1;house z 1 1;house aaaaaa 1 1;house zzzzzz 1 1;house ab 1 1;house abcdef 1 1;"
        + "dark b 1 1;dark ba 1 1;dark z 1 1;");
    int[] codes = {1 << 25, 26 << 25, 0x2108421, 0x35AD6B5A, (1 << 25) + (2 << 20), (1 << 25) + (2 << 20) + (3 << 15) + (4 << 10) + (5 << 5) + 6};
    for (int h = 0; h < 6; h++) Check.due("named(0, " + codes[h] + ")", x.named(0, codes[h]), h);
    int[] darks = {2 << 25, (2 << 25) + (1 << 20), 26 << 25};
    for (int d = 0; d < 3; d++) Check.due("named(1, " + darks[d] + ")", x.named(1, darks[d]), d);
    for (int what = 0; what < 2; what++) {
      int[] none = {0, 1, -1, Integer.MIN_VALUE, Integer.MAX_VALUE, 3 << 25, (1 << 25) + 1, (1 << 25) - 1, 1 << 25 | 1 << 30,
        1 << 25 | 1 << 31, 2 << 25 | 1 << 30, (26 << 25) + 1, 27 << 25, 1, 2, 26};
      for (int code : none) Check.due("named(" + what + ", " + code + ")", x.named(what, code), -1);
    }
    Check.due("a HOUSE is no dark one", x.named(1, 1 << 25), -1);
    Check.due("a dark one is no HOUSE", x.named(0, 2 << 25), -1);
    for (int what : new int[] {-1, 2, Integer.MIN_VALUE, Integer.MAX_VALUE}) Check.due("another what", x.named(what, 1 << 25), -1);
    // what a TEXT ahead told is gone, what a FAULT told never came
    Check.tell(x, "house b 1 1;");
    Check.due("gone", x.named(0, 1 << 25), -1);
    Check.due("gone", x.named(0, 26 << 25), -1);
    Check.due("gone", x.named(1, 2 << 25), -1);
    Check.due("it is there", x.named(0, 2 << 25), 0);
    Check.tell(x, "house c 1 1;dark c 1 1;!");
    Check.due("never came", x.named(0, 3 << 25), -1);
    Check.due("never came", x.named(1, 3 << 25), -1);
    Check.due("stays", x.named(0, 2 << 25), 0);
  }

  // ---- Promise 6: "IndexOutOfBoundsException: no such HOUSE. NoSuchElementException: no such what."

  static void look() {
    FirstSill x = Check.street(houses(6));
    for (int h : new int[] {Integer.MIN_VALUE, -2, -1, 6, 7, Integer.MAX_VALUE}) {
      for (int what = 0; what < 6; what++) Check.due("look(" + h + ", " + what + ")", Check.look(x, h, what), Check.NO_HOUSE);
    }
    for (int h = 0; h < 6; h++) {
      for (int what : new int[] {Integer.MIN_VALUE, -1, 6, Integer.MAX_VALUE}) {
        Check.due("look(" + h + ", " + what + ")", Check.look(x, h, what), Check.NO_WHAT);
      }
    }
    x = Check.street("house a 0 0 by 1;house b 99 99 own;");
    x.glass(0, true);
    x.out(1, true);
    int[][] due = {{0, 0, 1, 0, 1, 0}, {99, 99, 240, 1, 0, 1}};
    for (int h = 0; h < 2; h++) {
      for (int what = 0; what < 6; what++) Check.due("look(" + h + ", " + what + ")", Check.look(x, h, what), due[h][what]);
    }
    x.glass(0, false);
    x.out(1, false);
    Check.due("taken again", Check.look(x, 0, 4), 0);
    Check.due("in again", Check.look(x, 1, 5), 0);
  }

  // ---- Promise 7: "2 how many HOUSES the row has, 3 and on: the HOUSE of the row what less 3. NONE: no such ones."

  static void dark() {
    FirstSill x = Check.street(houses(6) + "dark k 0 0;dark l 99 9;dark m 5 5;");
    int[] row = {5, 0, 4, 1, 3, 2, 5, 5, 0};
    Check.due("an empty row", x.dark(2, 2), 0);
    Check.due("no first one", x.dark(2, 3), -1);
    for (int i = 0; i < 9; i++) {
      x.send(2, row[i]);
      Check.due("how many", x.dark(2, 2), i + 1);
      Check.due("the last one", x.dark(2, i + 3), row[i]);
      Check.due("none behind it", x.dark(2, i + 4), -1);
    }
    for (int i = 0; i < 9; i++) Check.due("each one", x.dark(2, i + 3), row[i]);
    for (int what : new int[] {Integer.MIN_VALUE, -1, 12, 13, Integer.MAX_VALUE}) Check.due("dark(2, " + what + ")", x.dark(2, what), -1);
    for (int d : new int[] {Integer.MIN_VALUE, -1, 3, Integer.MAX_VALUE}) {
      for (int what = 0; what < 4; what++) Check.due("dark(" + d + ", " + what + ")", x.dark(d, what), -1);
    }
    Check.due("other rows are empty", x.dark(0, 2) + x.dark(1, 2), 0);
    x.drop(2);
    Check.due("eight", x.dark(2, 2), 8);
    Check.due("the ninth has gone", x.dark(2, 11), -1);
    Check.due("the eighth is there", x.dark(2, 10), 5);
  }

  public static void main(String[] args) {
    everyByteBetweenTokens();
    everyByteInAWord();
    everyByteInANumber();
    everyByteInPlaceOfANumber();
    blanksAnywhere();
    signsThatBelongTogether();
    wordsOfOneToSixLetters();
    wordsOfTheLanguage();
    everyTokenBehindEachBeginning();
    theLengthIfMoreMustCome();
    theFirstAlongTheText();
    ofOnePlaceTheLeast();
    numbers();
    numbersAsTheyAreTold();
    sixHousesThreeDarkOnes();
    eightOpen();
    sixtyFourKnots();
    knotsOfAllLaws();
    toldAlready();
    whatIsntTold();
    newObject();
    bytesInTheirOrder();
    sixHundredBytes();
    firstBytes();
    notSoMany();
    allIsNew();
    allOfTheMostIsNew();
    nothingIsLeftOfATextAhead();
    allElseStays();
    fault();
    named();
    look();
    dark();
    Check.end();
  }
}
