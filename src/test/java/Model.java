import java.util.ArrayList;
import java.util.Arrays;
import java.util.List;

/**
 * The document once more, written as plainly as can be and without any thought of speed: what
 * DivisionHall answers is held against it. It shares no code and no way of working with the class.
 */
final class Model {
  private record Shift(int m, int day, int weight, int bloc, int told) {}

  /** Something that can be asked of a set at one time: a number, a truth being 1 or 0. */
  private interface Asked { int of(int set, Time time); }

  private static final class Fault extends RuntimeException {
    private static final long serialVersionUID = 1L;
    final int kind;
    final int place;
    Fault(int kind, int place) { this.kind = kind; this.place = place; }
  }

  /** The members on one day, as known on one day; null: out. */
  private final class Time {
    final Shift[] how = new Shift[10];
    Time(int day, int known) {
      for (int m = 0; m < members; m++) {
        for (Shift s : shifts) {
          if (s.m == m && s.told <= known && s.day <= day && (how[m] == null || s.day >= how[m].day)) how[m] = s;
        }
        if (how[m] != null && how[m].bloc < 0) how[m] = null;
      }
    }
    int in() {
      int set = 0;
      for (int m = 0; m < 10; m++) if (how[m] != null) set += 1 << m;
      return set;
    }
    int heads(int set, int bloc) {
      int n = 0;
      for (int m : list(set)) if (how[m] != null && (bloc < 0 || how[m].bloc == bloc)) n++;
      return n;
    }
    int weight(int set, int bloc) {
      int n = 0;
      for (int m : list(set)) if (how[m] != null && (bloc < 0 || how[m].bloc == bloc)) n += how[m].weight;
      return n;
    }
    int membersOf(int blocs) {
      int set = 0;
      for (int m = 0; m < 10; m++) if (how[m] != null && has(blocs, how[m].bloc)) set += 1 << m;
      return set;
    }
  }

  private record Token(String text, int place) {}

  /** By recursive descent, with an exception at the first thing that can't stand where it does. */
  private static final class Parser {
    final String text;
    final List<Token> tokens = new ArrayList<>();
    int next = 0;
    int open = 0;

    Parser(String text) {
      this.text = text;
      int at = 0;
      while (at < text.length()) {
        char c = text.charAt(at);
        if (c == ' ' || c == '\n') { at++; continue; }
        int from = at;
        at++;
        if (letter(c)) while (at < text.length() && letter(text.charAt(at))) at++;
        else if (digit(c)) while (at < text.length() && digit(text.charAt(at))) at++;
        tokens.add(new Token(text.substring(from, at), from));
      }
    }
    static boolean letter(char c) { return "abcdefghijklmnopqrstuvwxyz".indexOf(Character.toLowerCase(c)) >= 0 && c < 128; }
    static boolean digit(char c) { return "0123456789".indexOf(c) >= 0; }

    String peek() { return next < tokens.size() ? tokens.get(next).text : ""; }
    int place() { return next < tokens.size() ? tokens.get(next).place : text.length(); }
    boolean at(String what) { return peek().equals(what); }
    boolean take(String what) { if (!at(what)) return false; next++; return true; }
    void want(String what) { if (!take(what)) throw new Fault(1, place()); }
    boolean atNumber() { return !peek().isEmpty() && peek().length() <= 4 && digit(peek().charAt(0)); }
    int number() {
      if (!atNumber()) throw new Fault(1, place());
      int n = Integer.parseInt(peek());
      next++;
      return n;
    }
    int numberBelow(int bound) {
      int place = place();
      int n = number();
      if (n >= bound) throw new Fault(2, place);
      return n;
    }
    Asked whole() {
      Asked b = either();
      want(";");
      if (next < tokens.size()) throw new Fault(1, place());
      return b;
    }
    Asked either() {
      Asked left = both();
      while (take("or")) {
        Asked a = left, b = both();
        left = (s, t) -> a.of(s, t) == 1 || b.of(s, t) == 1 ? 1 : 0;
      }
      return left;
    }
    Asked both() {
      Asked left = clause();
      while (take("and")) {
        Asked a = left, b = clause();
        left = (s, t) -> a.of(s, t) == 1 && b.of(s, t) == 1 ? 1 : 0;
      }
      return left;
    }
    Asked clause() {
      if (at("not") || at("(")) {
        if (open == 8) throw new Fault(3, place());
        open++;
        Asked inner;
        if (take("not")) {
          Asked c = clause();
          inner = (s, t) -> c.of(s, t) == 1 ? 0 : 1;
        } else {
          next++;
          inner = either();
          want(")");
        }
        open--;
        return inner;
      }
      if (take("has")) {
        int n = numberBelow(10);
        return (s, t) -> has(s, n) ? 1 : 0;
      }
      Asked a = sum();
      if (take("<")) { Asked b = sum(); return (s, t) -> a.of(s, t) < b.of(s, t) ? 1 : 0; }
      if (take("=")) { Asked b = sum(); return (s, t) -> a.of(s, t) == b.of(s, t) ? 1 : 0; }
      if (take(">")) { Asked b = sum(); return (s, t) -> a.of(s, t) > b.of(s, t) ? 1 : 0; }
      throw new Fault(1, place());
    }
    Asked sum() {
      Asked left = product();
      while (at("+") || at("-")) {
        boolean plus = take("+");
        if (!plus) next++;
        Asked a = left, b = product();
        left = plus ? (s, t) -> a.of(s, t) + b.of(s, t) : (s, t) -> a.of(s, t) - b.of(s, t);
      }
      return left;
    }
    Asked product() {
      Asked left = unit();
      while (take("*")) {
        Asked a = left, b = unit();
        left = (s, t) -> a.of(s, t) * b.of(s, t);
      }
      return left;
    }
    Asked unit() {
      if (take("members")) return (s, t) -> t.heads(t.in(), -1);
      if (take("all")) return (s, t) -> t.weight(t.in(), -1);
      if (take("heads")) {
        int n = take("of") ? numberBelow(6) : -1;
        return (s, t) -> t.heads(s, n);
      }
      if (take("weight")) {
        int n = take("of") ? numberBelow(6) : -1;
        return (s, t) -> t.weight(s, n);
      }
      int n = number();
      return (s, t) -> n;
    }
  }

  private int members = 0;
  private final List<Shift> shifts = new ArrayList<>();
  private int day = 999, known = 999;
  private Time now;
  private String tape = "";
  private final Asked[] rules = new Asked[4];
  private int fault = 0, place = -1;
  private final String[] wishes = new String[10];
  private final int[] places = new int[6];
  private final int[][] values = new int[8][6];

  Model() {
    Arrays.fill(rules, (Asked) (s, t) -> 0);
    now = new Time(day, known);
  }

  static boolean has(int set, int i) { return i >= 0 && i < 31 && set / (1 << i) % 2 == 1; }
  static List<Integer> list(int set) {
    List<Integer> l = new ArrayList<>();
    for (int i = 0; i < 31; i++) if (has(set, i)) l.add(i);
    return l;
  }
  static boolean within(int a, int b) { return a >= 0 && (a | b) == b; }
  static boolean range(int x, int from, int to) { return from <= x && x <= to; }
  int in() { return now.in(); }
  int howManyIn() { return list(in()).size(); }
  private boolean carry(int r, int set) { return rules[r].of(set, now) == 1; }
  private boolean[] table(int r) {
    boolean[] t = new boolean[1024];
    for (int s = 0; s < 1024; s++) t[s] = within(s, in()) && carry(r, s);
    return t;
  }

  int member() { return members == 10 ? -1 : members++; }

  boolean shift(int m, int d, int weight, int bloc, int told) {
    if (!range(m, 0, members - 1) || !range(d, 0, 999) || !range(weight, 0, 99) || !range(bloc, -1, 5) || !range(told, 0, 999)) return false;
    if (shifts.size() == 200 || !shifts.isEmpty() && told < shifts.get(shifts.size() - 1).told) return false;
    shifts.add(new Shift(m, d, weight, bloc, told));
    now = new Time(day, known);
    return true;
  }

  boolean view(int d, int k) {
    if (!range(d, 0, 999) || !range(k, 0, 999)) return false;
    day = d;
    known = k;
    now = new Time(day, known);
    return true;
  }

  int of(int m, int what) {
    if (!range(m, 0, members - 1) || !range(what, 0, 2)) return -1;
    if (what == 2) return wishes[m] == null ? -1 : wishes[m].charAt(0) - '0';
    return now.how[m] == null ? -1 : what == 0 ? now.how[m].weight : now.how[m].bloc;
  }

  int look(int what) {
    int blocs = 0;
    for (int m : list(in())) blocs |= 1 << now.how[m].bloc;
    return what == 0 ? members : what == 1 ? in() : what == 2 ? shifts.size() : what == 3 ? blocs : what == 4 ? day : what == 5 ? known : -1;
  }

  int feed(int... five) {
    if (tape.length() > 380) return -1;
    for (int n : five) for (int i = 3; i >= 0; i--) tape += (char) ((n >>> (8 * i)) % 256);
    return tape.length();
  }

  boolean end(int n) {
    if (!range(n, 0, tape.length())) return false;
    tape = tape.substring(0, n);
    return true;
  }

  boolean rule(int r) {
    String text = tape;
    tape = "";
    if (!range(r, 0, 3)) return false;
    fault = 0;
    place = -1;
    try {
      Parser parser = new Parser(text);
      rules[r] = parser.tokens.isEmpty() ? (s, t) -> 0 : parser.whole();
      return true;
    } catch (Fault f) {
      fault = f.kind;
      place = f.place;
      return false;
    }
  }

  int fault(int what) { return what == 0 ? fault : what == 1 ? place : -1; }

  int carries(int r, int set) {
    if (!range(r, 0, 3) || !within(set, in())) return -1;
    return carry(r, set) ? 1 : 0;
  }

  private List<Integer> leastOnes(int r, int what) {
    boolean[] t = table(r);
    List<Integer> found = new ArrayList<>();
    for (int s = 0; s < 1024; s++) {
      if (!within(s, in())) continue;
      boolean least = what == 0 ? t[s] : !t[in() - s];
      for (int u = 0; u < s && least; u++) if (within(u, s) && (what == 0 ? t[u] : !t[in() - u])) least = false;
      if (least) found.add(s);
    }
    return found;
  }

  int leasts(int r, int what) { return !range(r, 0, 3) || !range(what, 0, 1) ? -1 : leastOnes(r, what).size(); }

  int least(int r, int what, int i) {
    if (!range(r, 0, 3) || !range(what, 0, 1)) return -1;
    List<Integer> l = leastOnes(r, what);
    return range(i, 0, l.size() - 1) ? l.get(i) : -1;
  }

  private long turns(boolean[] t, int ahead, int m) {
    long n = 0;
    for (int next : list(in() - ahead)) {
      if (next != m) n += turns(t, ahead + (1 << next), m);
      else if (!t[ahead] && t[ahead + (1 << m)]) n += fact(list(in() - ahead).size() - 1);
    }
    return n;
  }
  private static long fact(int n) { return n <= 1 ? 1 : n * fact(n - 1); }
  private static long gcd(long a, long b) { return b == 0 ? a : gcd(b, a % b); }

  long power(int r, int m, int what) {
    if (!range(r, 0, 3) || !range(m, 0, 9) || !has(in(), m) || !range(what, 0, 4)) return -1;
    boolean[] t = table(r);
    long over = 0, under = what < 3 ? 1L << (howManyIn() - 1) : fact(howManyIn());
    if (what >= 3) over = turns(t, 0, m);
    else for (int s = 0; s < 1024; s++) if (within(s, in()) && !has(s, m) && !t[s] && t[s + (1 << m)]) over++;
    long g = gcd(over, under);
    return what == 0 ? over : what == 1 || what == 3 ? over / g : under / g;
  }

  int odd(int r, int what) {
    if (!range(r, 0, 3) || !range(what, 0, 1)) return -1;
    for (int s = 0; s < 1024; s++) {
      if (!within(s, in()) || !carry(r, s)) continue;
      for (int m : list(in() - s)) if (!carry(r, s + (1 << m))) return what == 0 ? s : m;
    }
    return -1;
  }

  int worth(int r, int i, int j) {
    if (!range(r, 0, 3) || !range(i, 0, 9) || !range(j, 0, 9) || i == j || !has(in(), i) || !has(in(), j)) return -1;
    boolean[] t = table(r);
    boolean one = true, two = true;
    for (int s = 0; s < 1024; s++) {
      if (!within(s, in()) || has(s, i) || has(s, j)) continue;
      boolean withI = t[s + (1 << i)], withJ = t[s + (1 << j)];
      if (withJ && !withI) one = false;
      if (withI && !withJ) two = false;
    }
    return (one ? 1 : 0) + (two ? 2 : 0);
  }

  int trade(int r, int what) {
    if (!range(r, 0, 3) || !range(what, 0, 3)) return -1;
    boolean[] t = table(r);
    int most = in();
    for (int a = 0; a <= most; a++) if (within(a, most) && t[a])
      for (int b = a + 1; b <= most; b++) if (within(b, most) && t[b])
        for (int c = 0; c <= most; c++) if (within(c, most) && !t[c]) {
          int d = 0;
          boolean can = true;
          for (int m = 0; m < 10; m++) {
            int lack = (has(a, m) ? 1 : 0) + (has(b, m) ? 1 : 0) - (has(c, m) ? 1 : 0);
            if (lack < 0 || lack > 1) can = false;
            else d += lack << m;
          }
          if (can && c < d && !t[d]) return new int[] {a, b, c, d}[what];
        }
    return -1;
  }

  int days(int r, int set, int a, int b, int k) {
    if (!range(r, 0, 3) || !within(set, (1 << members) - 1) || a < 0 || a > b || b > 999 || !range(k, 0, 999)) return -1;
    int n = 0;
    for (int d = a; d <= b; d++) {
      Time t = new Time(d, k);
      n += rules[r].of(set & t.in(), t);
    }
    return n;
  }

  boolean wish(int m, int order) {
    if (!range(m, 0, members - 1)) return false;
    if (order == -1) { wishes[m] = null; return true; }
    if (order < 0) return false;
    String s = String.format("%06d", order);
    if (s.length() != 6) return false;
    for (char c = '0'; c <= '5'; c++) if (s.indexOf(c) < 0) return false;
    wishes[m] = s;
    return true;
  }

  int support(int a, int b) {
    if (!range(a, 0, 5) || !range(b, 0, 5) || a == b) return -1;
    int set = 0;
    for (int m : list(in())) if (wishes[m] != null && wishes[m].indexOf('0' + a) < wishes[m].indexOf('0' + b)) set += 1 << m;
    return set;
  }

  private boolean beats(int r, int b, int a) { return carry(r, support(b, a)); }

  private int stands(int r, String order, boolean sight) {
    int first = order.charAt(0) - '0';
    if (order.length() == 1) return first;
    int second = order.charAt(1) - '0';
    String kept = first + order.substring(2), put = second + order.substring(2);
    if (!sight) return stands(r, beats(r, second, first) ? put : kept, false);
    int a = stands(r, kept, true), b = stands(r, put, true);
    return a != b && beats(r, b, a) ? b : a;
  }

  int agenda(int r, int digits, boolean sight) {
    String s = String.valueOf(digits);
    if (!range(r, 0, 3) || !s.matches("9[0-5]{1,6}") || s.chars().distinct().count() != s.length()) return -1;
    return stands(r, s.substring(1), sight);
  }

  private static void orders(String so, String left, List<String> all) {
    if (left.isEmpty()) all.add(so);
    for (int i = 0; i < left.length(); i++) orders(so + left.charAt(i), left.substring(0, i) + left.substring(i + 1), all);
  }

  int through(int r, int set, int x, boolean sight, int what) {
    if (!range(r, 0, 3) || !range(set, 0, 63) || !range(x, 0, 5) || !has(set, x) || !range(what, 0, 1)) return -1;
    String left = "";
    for (int m : list(set)) left += m;
    List<String> all = new ArrayList<>();
    orders("", left, all);
    int n = 0, first = -1;
    for (String s : all) if (stands(r, s, sight) == x) {
      if (n == 0) first = Integer.parseInt("9" + s);
      n++;
    }
    return what == 0 ? n : first;
  }

  int best(int r, int set) {
    if (!range(r, 0, 3) || !range(set, 1, 63)) return -1;
    for (int x : list(set)) {
      boolean all = true;
      for (int y : list(set)) if (y != x && !beats(r, x, y)) all = false;
      if (all) return x;
    }
    return -1;
  }

  boolean line(int b, int p) {
    if (!range(b, 0, 5) || !range(p, 0, 99)) return false;
    places[b] = p;
    return true;
  }

  int coalition(int r, int what) {
    if (!range(r, 0, 3) || !range(what, 0, 3)) return -1;
    List<int[]> found = new ArrayList<>();
    for (int s = 1; s < 64; s++) {
      if (!within(s, look(3)) || !carry(r, now.membersOf(s))) continue;
      boolean hangs = true;
      int span = 0;
      for (int x : list(s)) for (int y : list(s)) {
        span = Math.max(span, places[y] - places[x]);
        for (int z : list(look(3) - s)) if (places[x] < places[z] && places[z] < places[y]) hangs = false;
      }
      if (hangs) found.add(new int[] {s, span, now.weight(now.membersOf(s), -1)});
    }
    if (what == 3) return found.size();
    found.sort((p, q) -> p[1] != q[1] ? p[1] - q[1] : p[2] != q[2] ? p[2] - q[2] : p[0] - q[0]);
    return found.isEmpty() ? -1 : found.get(0)[what];
  }

  boolean value(int p, int b, int v) {
    if (!range(p, 0, 7) || !range(b, 0, 5) || !range(v, 0, 99)) return false;
    values[p][b] = v;
    return true;
  }

  private int[] seen(int left, List<Integer> queue, int turn) {
    int[] owners = new int[8];
    Arrays.fill(owners, -1);
    if (left == 0) return owners;
    int b = queue.get(turn), most = -1;
    for (int p : list(left)) {
      int[] then = seen(left - (1 << p), queue, turn + 1);
      then[p] = b;
      int whole = 0;
      for (int q = 0; q < 8; q++) if (then[q] == b) whole += values[q][b];
      if (whole > most) { most = whole; owners = then; }
    }
    return owners;
  }

  int deal(int coalition, int posts, int way, boolean sight, int what) {
    if (!range(coalition, 1, 63) || !range(posts, 0, 255) || !range(way, 0, 1)) return -1;
    for (int b : list(coalition)) if (now.weight(now.membersOf(1 << b), -1) == 0) return -1;
    List<Integer> queue = new ArrayList<>();
    double[] share = new double[6];
    for (int i = 0; i < list(posts).size(); i++) {
      int next = -1;
      for (int b : list(coalition)) {
        int so = 0;
        for (int q : queue) if (q == b) so++;
        int w = now.weight(now.membersOf(1 << b), -1);
        // equal quotients of small whole numbers are equal doubles
        share[b] = (double) w / (way == 0 ? so + 1 : 2 * so + 1);
        if (next < 0 || share[b] > share[next] || share[b] == share[next] && w > now.weight(now.membersOf(1 << next), -1)) next = b;
      }
      queue.add(next);
    }
    int[] owners = new int[8];
    Arrays.fill(owners, -1);
    if (sight) owners = seen(posts, queue, 0);
    else for (int b : queue) {
      int best = -1;
      for (int p : list(posts)) if (owners[p] < 0 && (best < 0 || values[p][b] > values[best][b])) best = p;
      owners[best] = b;
    }
    if (range(what, 0, 7)) return owners[what];
    if (range(what, 10, 15)) {
      if (!has(coalition, what - 10)) return -1;
      int sum = 0;
      for (int p = 0; p < 8; p++) if (owners[p] == what - 10) sum += values[p][what - 10];
      return sum;
    }
    return range(what - 20, 0, queue.size() - 1) ? queue.get(what - 20) : -1;
  }
}
