import java.math.BigInteger;
import java.util.ArrayDeque;
import java.util.ArrayList;
import java.util.Arrays;
import java.util.Deque;
import java.util.HashMap;
import java.util.List;
import java.util.Map;
import java.util.NoSuchElementException;
import java.util.Set;

/**
 * The document once more, told as slowly and as plainly as can be: every row is tried and every
 * minute is lived through. OracleTest holds FirstSill against it. It shares no code with FirstSill.
 */
final class Plain {
  static final Set<String> LANGUAGE = Set.of("house", "by", "own", "dark", "seed", "law", "walk", "stay", "may", "cat",
      "or", "and", "not", "far", "glass", "minute", "up", "left", "worth", "home");
  static final Set<String> NAMES = Set.of("far", "glass", "minute", "up", "left", "worth", "home");
  static final Set<String> SIGNS = Set.of("<", "<=", "=", "<>", ">=", ">", "+", "-", "*", "/", "(", ")", ";");

  static final class Fault extends RuntimeException {
    final int kind;
    final int place;
    Fault(int kind, int place) { this.kind = kind; this.place = place; }
  }

  static final class Wrong extends RuntimeException { }

  record Word(String letters, int place) { }

  record House(String name, int place, int worth, int by, boolean own) { }

  record Dark(String name, int place, int coal) { }

  interface Node { BigInteger value(Map<String, Integer> names); }

  static final class Told {
    final List<House> houses = new ArrayList<>();
    final List<Dark> darks = new ArrayList<>();
    Integer seed = null;
    final Map<String, Node> laws = new HashMap<>();
    int lines = 0;
    int knots = 0;
  }

  // ---- reading: first all words, then line by line

  static List<Word> words(String text) {
    List<Word> words = new ArrayList<>();
    int i = 0;
    while (i < text.length()) {
      char c = text.charAt(i);
      if (c == ' ' || c == '\n') { i++; continue; }
      int j = i + 1;
      if (isLetter(c)) {
        while (j < text.length() && isLetter(text.charAt(j))) j++;
      } else if (isDigit(c)) {
        while (j < text.length() && isDigit(text.charAt(j))) j++;
      } else if (j < text.length() && SIGNS.contains(text.substring(i, j + 1))) {
        j++;
      }
      words.add(new Word(text.substring(i, j), i));
      i = j;
    }
    words.add(new Word("", text.length()));
    return words;
  }

  static boolean isLetter(char c) { return c >= 'a' && c <= 'z'; }

  static boolean isDigit(char c) { return c >= '0' && c <= '9'; }

  static final class Parser {
    final List<Word> words;
    final Told told = new Told();
    int at = 0;
    int open = 0;

    Parser(String text) { words = words(text); }

    String now() { return words.get(at).letters; }

    Fault fault(int kind) { return new Fault(kind, words.get(at).place); }

    boolean number() { return !now().isEmpty() && isDigit(now().charAt(0)); }

    boolean freeName() {
      return !now().isEmpty() && isLetter(now().charAt(0)) && now().length() <= 6 && !LANGUAGE.contains(now());
    }

    boolean eat(String word) {
      if (!now().equals(word)) return false;
      at++;
      return true;
    }

    void must(String word) { if (!eat(word)) throw fault(1); }

    int number(int least, int most) {
      if (!number()) throw fault(1);
      BigInteger n = new BigInteger(now());
      if (n.compareTo(BigInteger.valueOf(most)) > 0 || n.compareTo(BigInteger.valueOf(least)) < 0) throw fault(2);
      at++;
      return n.intValue();
    }

    Told read() {
      while (!now().isEmpty()) {
        line();
        must(";");
        told.lines++;
      }
      return told;
    }

    void line() {
      switch (now()) {
        case "house" -> {
          if (told.houses.size() == 6) throw fault(2);
          at++;
          if (!freeName()) throw fault(1);
          for (House h : told.houses) if (h.name.equals(now())) throw fault(3);
          String name = now();
          at++;
          int place = number(0, 99);
          int worth = number(0, 99);
          int by = eat("by") ? number(1, 240) : 240;
          told.houses.add(new House(name, place, worth, by, eat("own")));
        }
        case "dark" -> {
          if (told.darks.size() == 3) throw fault(2);
          at++;
          if (!freeName()) throw fault(1);
          for (Dark d : told.darks) if (d.name.equals(now())) throw fault(3);
          String name = now();
          at++;
          int place = number(0, 99);
          told.darks.add(new Dark(name, place, number(0, 9)));
        }
        case "seed" -> {
          if (told.seed != null) throw fault(3);
          at++;
          told.seed = number(0, 99999);
        }
        case "law" -> {
          at++;
          String kind = now();
          if (!Set.of("walk", "stay", "may", "cat").contains(kind)) throw fault(1);
          if (told.laws.containsKey(kind)) throw fault(3);
          at++;
          told.laws.put(kind, or());
        }
        default -> throw fault(1);
      }
    }

    void knot() {
      if (told.knots == 64) throw fault(2);
      told.knots++;
      at++;
    }

    Node or() {
      Node a = and();
      while (now().equals("or")) a = two(a, this::and);
      return a;
    }

    Node and() {
      Node a = not();
      while (now().equals("and")) a = two(a, this::not);
      return a;
    }

    Node not() {
      if (!now().equals("not")) return relation();
      knot();
      Node a = not();
      return names -> flag(a.value(names).signum() == 0);
    }

    Node relation() {
      Node a = sum();
      return Set.of("<", "<=", "=", "<>", ">=", ">").contains(now()) ? two(a, this::sum) : a;
    }

    Node sum() {
      Node a = product();
      while (now().equals("+") || now().equals("-")) a = two(a, this::product);
      return a;
    }

    Node product() {
      Node a = part();
      while (now().equals("*") || now().equals("/")) a = two(a, this::part);
      return a;
    }

    interface Next { Node read(); }

    Node two(Node a, Next next) {
      String sign = now();
      knot();
      Node b = next.read();
      return names -> join(sign, a.value(names), b.value(names));
    }

    Node part() {
      if (now().equals("(")) {
        if (open == 8) throw fault(2);
        open++;
        at++;
        Node a = or();
        must(")");
        open--;
        return a;
      }
      if (number()) {
        BigInteger n = new BigInteger(now());
        if (n.compareTo(BigInteger.valueOf(9999)) > 0) throw fault(2);
        knot();
        return names -> n;
      }
      if (!NAMES.contains(now())) throw fault(1);
      String name = now();
      knot();
      return names -> BigInteger.valueOf(names.get(name));
    }
  }

  static BigInteger flag(boolean is) { return is ? BigInteger.ONE : BigInteger.ZERO; }

  static BigInteger join(String sign, BigInteger a, BigInteger b) {
    int c = a.compareTo(b);
    BigInteger value = switch (sign) {
      case "or" -> flag(a.signum() != 0 || b.signum() != 0);
      case "and" -> flag(a.signum() != 0 && b.signum() != 0);
      case "<" -> flag(c < 0);
      case "<=" -> flag(c <= 0);
      case "=" -> flag(c == 0);
      case "<>" -> flag(c != 0);
      case ">=" -> flag(c >= 0);
      case ">" -> flag(c > 0);
      case "+" -> a.add(b);
      case "-" -> a.subtract(b);
      case "*" -> a.multiply(b);
      default -> {
        if (b.signum() == 0) throw new Wrong();
        yield a.divide(b);
      }
    };
    if (value.abs().compareTo(BigInteger.TEN.pow(12)) > 0) throw new Wrong();
    return value;
  }

  // ---- the state

  Told told = new Told();
  String tape = "";
  int fault = 0;
  int faultPlace = -1;
  State state = new State();
  Deque<State> past = new ArrayDeque<>();
  Life latest = null;
  long number = 0;
  int nights = 0;
  List<int[]> tracks = new ArrayList<>();
  int knownBy = -1;
  Image image = null;

  record Image(State state, Life latest, long number, int nights) { }

  static final class State {
    List<List<Integer>> rows = new ArrayList<>();
    boolean[] refused = new boolean[6];
    boolean[] out = new boolean[6];

    State() { for (int d = 0; d < 3; d++) rows.add(new ArrayList<>()); }

    State copy() {
      State s = new State();
      for (int d = 0; d < 3; d++) s.rows.set(d, new ArrayList<>(rows.get(d)));
      s.refused = refused.clone();
      s.out = out.clone();
      return s;
    }
  }

  int houses() { return told.houses.size(); }

  int darks() { return told.darks.size(); }

  boolean house(int h) { return h >= 0 && h < houses(); }

  boolean dark(int d) { return d >= 0 && d < darks(); }

  static boolean minute(int m) { return m >= 1 && m <= 240; }

  // ---- laws

  Map<String, Integer> names(int far, int up, int minute, int glass, int left, int worth, int home) {
    Map<String, Integer> names = new HashMap<>();
    names.put("far", far);
    names.put("up", up);
    names.put("minute", minute);
    names.put("glass", glass);
    names.put("left", left);
    names.put("worth", worth);
    names.put("home", home);
    return names;
  }

  int law(String kind, Map<String, Integer> names, int most, int without, int withError) {
    Node law = told.laws.get(kind);
    if (law == null) return without;
    try {
      return law.value(names).max(BigInteger.ZERO).min(BigInteger.valueOf(most)).intValue();
    } catch (Wrong e) {
      return withError;
    }
  }

  int walkLaw(int from, int to, int minute, int glass, int left, int worth, boolean near) {
    int far = near ? 0 : Math.abs(from - to);
    int up = !near && to > from ? 1 : 0;
    return law("walk", names(far, up, minute, glass, left, worth, 0), 240, far, far);
  }

  int stayLaw(int minute, int glass, int left, int worth) {
    return law("stay", names(0, 0, minute, glass, left, worth, 0), 60, 2, 2);
  }

  boolean mayLaw(int minute, int glass, int left, int worth, int home) {
    return law("may", names(0, 0, minute, glass, left, worth, home), 1, 1, 0) > 0;
  }

  int catLaw(int minute, int worth) { return law("cat", names(0, 0, minute, 0, 0, worth, 0), 1000, 0, 0); }

  // ---- one life of the street: minutes 1 to 240

  final class Life {
    final int[] by = new int[6];
    final int[] on = new int[6];
    final int[] leaves = new int[3];
    final int[] glasses = new int[3];
    final int[] coal = new int[3];
    final int[] did = new int[3];
    final int[] place = new int[3];
    final List<List<Integer>> came = new ArrayList<>();
    final int[] comes = new int[3];
    int vain = 0;
    final State plan;
    final int trial;
    final int trialOf;

    Life(State plan, int trial, int trialOf, boolean cats) {
      this.plan = plan;
      this.trial = trial;
      this.trialOf = trialOf;
      Arrays.fill(by, -1);
      Arrays.fill(on, -1);
      for (int d = 0; d < darks(); d++) {
        leaves[d] = 1;
        coal[d] = told.darks.get(d).coal;
        place[d] = told.darks.get(d).place;
        came.add(new ArrayList<>());
      }
      for (int h = 0; h < houses(); h++) {
        if (plan.out[h] && !(trial == 3 && trialOf == h)
            && (trial == 5 || mayLaw(1, 0, 0, told.houses.get(h).worth, 1))) {
          by[h] = -2;
          on[h] = 1;
        }
      }
      for (int m = 1; m <= 240; m++) {
        for (int d = 0; d < darks(); d++) {
          if (!(trial == 4 && trialOf == d)) walkOn(d, m);
        }
        if (cats) letCats(m);
      }
    }

    List<Integer> row(int d) {
      List<Integer> row = new ArrayList<>(plan.rows.get(d));
      if (trial == 3) row.removeIf(h -> h == trialOf);
      return row;
    }

    /** All houses to which he comes on this very minute. */
    void walkOn(int d, int m) {
      List<Integer> row = row(d);
      while (came.get(d).size() < row.size()) {
        int h = row.get(came.get(d).size());
        House to = told.houses.get(h);
        if (comes[d] == 0) {
          comes[d] = leaves[d] + walkLaw(place[d], to.place, leaves[d], glasses[d], coal[d], to.worth, trial == 2);
        }
        if (comes[d] != m) return;
        comes[d] = 0;
        came.get(d).add(m);
        place[d] = to.place;
        leaves[d] = m;
        if (by[h] == -1 && coal[d] > 0 && (trial == 5 || mayLaw(m, glasses[d], coal[d], to.worth, 0))) {
          by[h] = d;
          on[h] = m;
          did[d]++;
          if (!(trial == 0 || plan.refused[h])) {
            leaves[d] = m + stayLaw(m, glasses[d], coal[d], to.worth);
            glasses[d]++;
          }
          if (trial != 1) coal[d]--;
        } else {
          vain |= 1 << h;
        }
      }
    }

    void letCats(int m) {
      for (int h = 0; h < houses(); h++) {
        if (by[h] != -1) continue;
        int cat = catLaw(m, told.houses.get(h).worth);
        if (cat <= 0) continue;
        number = (number * 1103515245L + 12345L) % (1L << 31);
        if (number / 65536 % 1000 < cat) {
          by[h] = -3;
          on[h] = m;
        }
      }
    }

    boolean done(int h) { return by[h] >= 0 || by[h] == -2; }

    boolean inTime(int h) { return done(h) && on[h] <= told.houses.get(h).by; }

    int gainOf(int h) {
      if (!inTime(h)) return 0;
      int worth = told.houses.get(h).worth;
      return trial != 0 && plan.refused[h] && by[h] >= 0 ? worth / 2 : worth;
    }

    int gain() {
      int gain = 0;
      for (int h = 0; h < houses(); h++) gain += gainOf(h);
      return gain;
    }
  }

  Life planned() { return new Life(state, -1, -1, false); }

  Life planned(State s) { return new Life(s, -1, -1, false); }

  // ---- rows

  /** All rows of houses of a set, none twice, in the order of BEST. */
  static void rows(int free, List<Integer> begun, List<List<Integer>> into) {
    into.add(new ArrayList<>(begun));
    for (int h = 0; h < 6; h++) {
      if ((free >> h & 1) == 1) {
        begun.add(h);
        rows(free & ~(1 << h), begun, into);
        begun.remove(begun.size() - 1);
      }
    }
  }

  static List<List<Integer>> rows(int free) {
    List<List<Integer>> all = new ArrayList<>();
    rows(free, new ArrayList<>(), all);
    return all;
  }

  interface Try { void with(Life life); }

  /** Every way to give rows to the first n, in the order of BEST. */
  void everyWay(int n, int d, int free, State s, Try each) {
    if (d == n) {
      each.with(planned(s.copy()));
      return;
    }
    for (List<Integer> row : rows(free)) {
      s.rows.set(d, row);
      int left = free;
      for (int h : row) left &= ~(1 << h);
      everyWay(n, d + 1, left, s, each);
    }
    s.rows.set(d, new ArrayList<>());
  }

  State likeNow() {
    State s = new State();
    s.refused = state.refused.clone();
    s.out = state.out.clone();
    return s;
  }

  Life bestLife(int n, int without) {
    Life[] best = new Life[1];
    State s = likeNow();
    int free = (1 << houses()) - 1;
    if (without >= 0) {
      free &= ~(1 << without);
      s.out[without] = false;
    }
    everyWay(n, 0, free, s, life -> {
      if (best[0] == null || life.gain() > best[0].gain()) best[0] = life;
    });
    return best[0];
  }

  List<List<Integer>> talesOf(int d) {
    List<int[]> known = new ArrayList<>();
    int n = knownBy < 0 ? tracks.size() : knownBy;
    boolean[] struck = new boolean[n];
    for (int i = n - 1; i >= 0; i--) {
      if (struck[i]) continue;
      int[] t = tracks.get(i);
      if (t.length == 1) struck[t[0]] = true;
      else if (t[0] == d) known.add(new int[] {i, t[1], t[2]});
    }
    List<List<Integer>> tales = new ArrayList<>();
    for (List<Integer> row : rows((1 << houses()) - 1)) {
      State s = likeNow();
      s.rows.set(d, row);
      Life life = planned(s);
      boolean so = true;
      for (int[] t : known) if (!struck[t[0]] && !(life.by[t[1]] == d && life.on[t[1]] == t[2])) so = false;
      if (so) tales.add(row);
    }
    return tales;
  }

  int[] bestExchange() {
    int now = planned().gain();
    List<int[]> places = new ArrayList<>();
    for (int d = 0; d < darks(); d++) for (int i = 0; i < state.rows.get(d).size(); i++) places.add(new int[] {d, i});
    int[] best = null;
    for (int a = 0; a < places.size(); a++) {
      for (int b = a + 1; b < places.size(); b++) {
        int[] p = places.get(a);
        int[] q = places.get(b);
        State s = exchanged(p[0], p[1], q[0], q[1]);
        if (state.rows.get(p[0]).get(p[1]).equals(state.rows.get(q[0]).get(q[1]))) continue;
        int gain = planned(s).gain();
        if (gain > now && (best == null || gain > best[0])) best = new int[] {gain, p[0], p[1], q[0], q[1]};
      }
    }
    return best;
  }

  State exchanged(int d, int i, int e, int j) {
    State s = state.copy();
    int h = s.rows.get(d).get(i);
    s.rows.get(d).set(i, s.rows.get(e).get(j));
    s.rows.get(e).set(j, h);
    return s;
  }

  void change(State to) {
    past.addLast(state);
    if (past.size() > 20) past.removeFirst();
    state = to;
  }

  // ---- the face

  int feed(int a, int b, int c, int d, int e) {
    if (tape.length() + 20 > 600) return -1;
    StringBuilder more = new StringBuilder(tape);
    for (int n : new int[] {a, b, c, d, e}) {
      for (int k = 3; k >= 0; k--) more.append((char) (n >>> 8 * k & 255));
    }
    tape = more.toString();
    return tape.length();
  }

  int text(int n) {
    if (n < 0 || n > tape.length()) return -2;
    String text = tape.substring(0, n);
    tape = "";
    try {
      told = new Parser(text).read();
    } catch (Fault f) {
      fault = f.kind;
      faultPlace = f.place;
      return -1;
    }
    fault = 0;
    faultPlace = -1;
    state = new State();
    past.clear();
    latest = null;
    number = told.seed == null ? 0 : told.seed;
    nights = 0;
    tracks.clear();
    knownBy = -1;
    image = null;
    return told.lines;
  }

  int fault(int what) { return what == 0 ? fault : what == 1 ? faultPlace : -1; }

  static int code(String name) {
    int code = 0;
    for (int i = 0; i < 6; i++) code = code * 32 + (i < name.length() ? name.charAt(i) - 96 : 0);
    return code;
  }

  int named(int what, int letters) {
    if (what == 0) for (int h = 0; h < houses(); h++) if (code(told.houses.get(h).name) == letters) return h;
    if (what == 1) for (int d = 0; d < darks(); d++) if (code(told.darks.get(d).name) == letters) return d;
    return -1;
  }

  int look(int h, int what) {
    if (!house(h)) throw new IndexOutOfBoundsException();
    House it = told.houses.get(h);
    int[] all = {it.place, it.worth, it.by, it.own ? 1 : 0, state.refused[h] ? 1 : 0, state.out[h] ? 1 : 0};
    if (what < 0 || what >= all.length) throw new NoSuchElementException();
    return all[what];
  }

  int dark(int d, int what) {
    if (!dark(d) || what < 0) return -1;
    if (what == 0) return told.darks.get(d).place;
    if (what == 1) return told.darks.get(d).coal;
    List<Integer> row = state.rows.get(d);
    if (what == 2) return row.size();
    return what - 3 < row.size() ? row.get(what - 3) : -1;
  }

  int walk(int d, int from, int to, int m, int glass) {
    if (!dark(d) || from != -1 && !house(from) || !house(to) || !minute(m) || glass < 0 || glass > 9) return -1;
    int here = from == -1 ? told.darks.get(d).place : told.houses.get(from).place;
    return walkLaw(here, told.houses.get(to).place, m, glass, told.darks.get(d).coal, told.houses.get(to).worth, false);
  }

  int stays(int d, int h, int m, int glass, int what) {
    if (!dark(d) || !house(h) || !minute(m) || glass < 0 || glass > 9 || what < 0 || what > 1) return -1;
    int coal = told.darks.get(d).coal;
    int worth = told.houses.get(h).worth;
    return what == 0 ? stayLaw(m, glass, coal, worth) : mayLaw(m, glass, coal, worth, 0) ? 1 : 0;
  }

  int cat(int h, int m) { return house(h) && minute(m) ? catLaw(m, told.houses.get(h).worth) : -1; }

  int send(int d, int h) {
    if (!dark(d) || !house(h) || state.rows.get(d).size() >= 9) return -1;
    State s = state.copy();
    s.rows.get(d).add(h);
    change(s);
    return s.rows.get(d).size();
  }

  int drop(int d) {
    if (!dark(d) || state.rows.get(d).isEmpty()) return -1;
    State s = state.copy();
    int h = s.rows.get(d).remove(s.rows.get(d).size() - 1);
    change(s);
    return h;
  }

  boolean glass(int h, boolean refused) {
    if (!house(h) || state.refused[h] == refused) return false;
    State s = state.copy();
    s.refused[h] = refused;
    change(s);
    return true;
  }

  boolean out(int h, boolean is) {
    if (!house(h) || !told.houses.get(h).own || state.out[h] == is) return false;
    State s = state.copy();
    s.out[h] = is;
    change(s);
    return true;
  }

  int done(int h, int what) {
    if (!house(h) || what < 0 || what > 1) return -1;
    return what == 0 ? planned().by[h] : planned().on[h];
  }

  int where(int d, int m) {
    if (!dark(d) || !minute(m)) return -1;
    int at = -2;
    List<Integer> came = planned().came.get(d);
    for (int i = 0; i < came.size(); i++) if (came.get(i) <= m) at = i;
    return at;
  }

  int gain() { return planned().gain(); }

  int night() {
    latest = new Life(state.copy(), -1, -1, true);
    nights++;
    return latest.gain();
  }

  int was(int h, int what) {
    if (!house(h) || what < 0 || what > 1) return -1;
    if (latest == null) return -4;
    return what == 0 ? latest.by[h] : latest.on[h];
  }

  int chance(int seed, int h) {
    if (seed < 0 || !house(h)) return -1;
    long kept = number;
    number = seed;
    int times = 0;
    for (int i = 0; i < 10; i++) if (new Life(state, -1, -1, true).inTime(h)) times++;
    number = kept;
    return times;
  }

  int best(int n) { return n < 0 || n > darks() ? -1 : bestLife(n, -1).gain(); }

  int chosen(int n, int d, int k) {
    if (n < 0 || n > darks() || d < 0 || d >= n || k < 0) return -1;
    List<Integer> row = bestLife(n, -1).plan.rows.get(d);
    return k < row.size() ? row.get(k) : -2;
  }

  int many() {
    Life nobody = planned(likeNow());
    int whole = 0;
    for (int h = 0; h < houses(); h++) {
      int worth = told.houses.get(h).worth;
      whole += state.refused[h] && nobody.by[h] != -2 ? worth / 2 : worth;
    }
    for (int n = 0; n <= darks(); n++) if (best(n) == whole) return n;
    return -2;
  }

  int price(int h) {
    if (!house(h)) return -1;
    Life with = bestLife(darks(), -1);
    return bestLife(darks(), h).gain() - (with.gain() - with.gainOf(h));
  }

  int all(int set) {
    if (set < 0 || set >= 1 << houses()) return -1;
    int[] can = new int[1];
    everyWay(darks(), 0, (1 << houses()) - 1, likeNow(), life -> {
      for (int h = 0; h < houses(); h++) if ((set >> h & 1) == 1 && !life.inTime(h)) return;
      can[0] = 1;
    });
    return can[0];
  }

  int after(int d, int what) {
    if (!dark(d) || what < 0 || what > 4) return -1;
    Life life = planned();
    return new int[][] {life.leaves, life.glasses, life.coal, life.did, life.place}[what][d];
  }

  int which(int what) {
    Life life = planned();
    if (what == 2) return life.vain;
    if (what < 0 || what > 2) return -1;
    int set = 0;
    for (int h = 0; h < houses(); h++) if (what == 0 ? life.done(h) && !life.inTime(h) : !life.done(h)) set |= 1 << h;
    return set;
  }

  int exchange(int what) {
    if (what < 0 || what > 4) return -1;
    int[] best = bestExchange();
    return best == null ? -2 : best[what];
  }

  int climb() {
    State before = state;
    int n = 0;
    for (int[] x = bestExchange(); x != null; x = bestExchange()) {
      state = exchanged(x[1], x[2], x[3], x[4]);
      n++;
    }
    State to = state;
    state = before;
    if (n > 0) change(to);
    return n;
  }

  int refusal(int what) {
    if (what < 0 || what > 1) return -1;
    int best = -1;
    int set = 0;
    for (int fewest = 0; fewest <= houses(); fewest++) {
      for (int i = 0; i < 1 << houses(); i++) {
        if (Integer.bitCount(i) != fewest) continue;
        State s = state.copy();
        for (int h = 0; h < 6; h++) s.refused[h] = (i >> h & 1) == 1;
        int gain = planned(s).gain();
        if (gain > best) {
          best = gain;
          set = i;
        }
      }
    }
    return what == 0 ? best : set;
  }

  int track(int d, int h, int m) {
    if (!dark(d) || !house(h) || !minute(m) || tracks.size() == 24) return -1;
    tracks.add(new int[] {d, h, m});
    return tracks.size() - 1;
  }

  int strike(int t) {
    if (t < 0 || t >= tracks.size() || tracks.size() == 24) return -1;
    tracks.add(new int[] {t});
    return tracks.size() - 1;
  }

  boolean known(int n) {
    if (n < -1 || n > tracks.size()) return false;
    knownBy = n;
    return true;
  }

  int tales(int d) { return dark(d) ? talesOf(d).size() : -1; }

  int tale(int d, int k, int i) {
    if (!dark(d) || k < 0 || i < 0) return -1;
    List<List<Integer>> tales = talesOf(d);
    if (k >= tales.size()) return -3;
    return i < tales.get(k).size() ? tales.get(k).get(i) : -2;
  }

  int tried(int what, int i) {
    boolean such = switch (what) {
      case 0, 1, 2, 5 -> i == 0;
      case 3 -> house(i);
      case 4 -> dark(i);
      default -> false;
    };
    return such ? new Life(state, what, i, false).gain() : -1;
  }

  int undo() {
    if (past.isEmpty()) return -1;
    state = past.removeLast();
    return past.size();
  }

  int keep() {
    image = new Image(state.copy(), latest, number, nights);
    return gain();
  }

  int back() {
    if (image == null) return -1;
    state = image.state.copy();
    latest = image.latest;
    number = image.number;
    nights = image.nights;
    past.clear();
    return gain();
  }

  int count(int what) {
    return switch (what) {
      case 0 -> houses();
      case 1 -> darks();
      case 2 -> told.knots;
      case 3 -> houses() - Integer.bitCount(which(1));
      case 4 -> tracks.size();
      case 5 -> knownBy < 0 ? tracks.size() : knownBy;
      case 6 -> past.size();
      case 7 -> nights;
      default -> -1;
    };
  }
}
