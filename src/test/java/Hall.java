import java.util.ArrayList;
import java.util.List;

/**
 * A DivisionHall whose calls are counted: behind the 512th the document promises nothing, so that
 * no test may ask for more. It knows how long the tape should be.
 */
final class Hall {
  private static final int MOST_CALLS = 512;

  private final DivisionHall hall = new DivisionHall();
  private int calls = 0;
  private int tape = 0;

  private DivisionHall asked() {
    if (calls == MOST_CALLS) throw new IllegalStateException("a test makes more than 512 calls of one object");
    calls++;
    return hall;
  }
  int calls() { return calls; }

  int member() { return asked().member(); }
  boolean shift(int m, int day, int weight, int bloc, int told) { return asked().shift(m, day, weight, bloc, told); }
  boolean view(int day, int known) { return asked().view(day, known); }
  int of(int m, int what) { return asked().of(m, what); }
  int look(int what) { return asked().look(what); }
  int feed(int a, int b, int c, int d, int e) {
    int n = asked().feed(a, b, c, d, e);
    tape = n < 0 ? tape : n;
    return n;
  }
  boolean end(int n) {
    boolean did = asked().end(n);
    tape = did ? n : tape;
    return did;
  }
  boolean rule(int r) {
    tape = 0;
    return asked().rule(r);
  }
  int fault(int what) { return asked().fault(what); }
  int carries(int r, int set) { return asked().carries(r, set); }
  int leasts(int r, int what) { return asked().leasts(r, what); }
  int least(int r, int what, int i) { return asked().least(r, what, i); }
  long power(int r, int m, int what) { return asked().power(r, m, what); }
  int odd(int r, int what) { return asked().odd(r, what); }
  int worth(int r, int i, int j) { return asked().worth(r, i, j); }
  int trade(int r, int what) { return asked().trade(r, what); }
  int days(int r, int set, int a, int b, int k) { return asked().days(r, set, a, b, k); }
  boolean wish(int m, int order) { return asked().wish(m, order); }
  int support(int a, int b) { return asked().support(a, b); }
  int agenda(int r, int digits, boolean sight) { return asked().agenda(r, digits, sight); }
  int through(int r, int set, int x, boolean sight, int what) { return asked().through(r, set, x, sight, what); }
  int best(int r, int set) { return asked().best(r, set); }
  boolean line(int b, int place) { return asked().line(b, place); }
  int coalition(int r, int what) { return asked().coalition(r, what); }
  boolean value(int p, int b, int v) { return asked().value(p, b, v); }
  int deal(int coalition, int posts, int way, boolean sight, int what) { return asked().deal(coalition, posts, way, sight, what); }

  /** Members 0 .. with these weights from day 0 on, told on day 0, each of the bloc of its number (6: 0 again). */
  static Hall weighing(int... weights) {
    Hall h = new Hall();
    for (int m = 0; m < weights.length; m++) {
      h.member();
      h.shift(m, 0, weights[m], m % 6, 0);
    }
    return h;
  }

  static Hall ten() { return weighing(1, 1, 1, 1, 1, 1, 1, 1, 1, 1); }

  /** The bytes of a text come behind the tape, and no others. */
  Hall type(String text) {
    int whole = tape + text.length();
    for (int at = 0; at < text.length(); at += 20) {
      int[] n = new int[5];
      for (int i = 0; i < 20; i++) n[i / 4] = n[i / 4] << 8 | (at + i < text.length() ? text.charAt(at + i) : '?');
      feed(n[0], n[1], n[2], n[3], n[4]);
    }
    if (tape != whole) end(whole);
    return this;
  }

  /** Rule r is told as this text, which must be without a fault. */
  Hall tell(int r, String text) {
    if (!type(text).rule(r)) throw new IllegalStateException("refused: " + text);
    return this;
  }

  /** What rule() makes of a text: its fault and its place, as in "1 at 7"; "0 at -1" without one. */
  String faultOf(String text) {
    boolean taken = type(text).rule(3);
    String found = fault(0) + " at " + fault(1);
    return taken == found.equals("0 at -1") ? found : found + ", but rule() answered " + taken;
  }

  /** Whether a set carries by a text. */
  int so(String text, int set) { return tell(3, text).carries(3, set); }

  /** A hall in which all there is has been set to something: 8 members, four rules, wishes, places, values, a tape of 3 bytes. */
  static Hall busy() {
    Hall h = weighing(5, 4, 3, 7, 2, 6, 1, 8);
    h.shift(1, 300, 9, 2, 10);
    h.shift(7, 400, 0, -1, 20);
    h.tell(0, "weight*2>all;").tell(1, "heads>4 and has 0;").tell(2, "has 0 and has 1 or has 2;");
    h.faultOf("heads of 6;");
    int[] wishes = {12345, 543210, 120345, 201345, 350124, 413250};
    for (int m = 0; m < wishes.length; m++) h.wish(m, wishes[m]);
    for (int b = 0; b < 6; b++) {
      h.line(b, 10 + 7 * b);
      for (int p = 0; p < 8; p++) h.value(p, b, 1 + 10 * b + p);
    }
    h.view(350, 15);
    return h.type("1=1");
  }

  /** All that can be seen of the state, answer by answer; asking changes nothing. */
  List<String> state() {
    List<String> all = new ArrayList<>();
    for (int what = 0; what < 6; what++) all.add("look(" + what + ") " + look(what));
    for (int m = 0; m < 10; m++) for (int what = 0; what < 3; what++) all.add("of(" + m + ", " + what + ") " + of(m, what));
    for (int what = 0; what < 2; what++) all.add("fault(" + what + ") " + fault(what));
    int in = look(1), came = (1 << look(0)) - 1;
    for (int r = 0; r < 4; r++) {
      all.add("carries(" + r + ", all) " + carries(r, in));
      all.add("leasts(" + r + ", 0) " + leasts(r, 0));
      all.add("leasts(" + r + ", 1) " + leasts(r, 1));
      all.add("days(" + r + ", ..) " + days(r, came, 0, 999, 999));
    }
    for (int a = 0; a < 6; a++) for (int b = a + 1; b < 6; b++) all.add("support(" + a + ", " + b + ") " + support(a, b));
    for (int r = 0; r < 3; r++) for (int what = 0; what < 4; what++) all.add("coalition(" + r + ", " + what + ") " + coalition(r, what));
    for (int b = 0; b < 6; b++) for (int p = 0; p < 8; p++) all.add("value(" + p + ", " + b + ") " + deal(1 << b, 1 << p, 0, false, 10 + b));
    if (tape < 400) all.add("end(" + (tape + 1) + ") " + end(tape + 1));
    all.add("end(" + tape + ") " + end(tape));
    return all;
  }
}
