import java.util.Random;

/** Runs of calls drawn by fixed seeds, each answer held against that of the plain Model. */
public final class ModelTest {
  private static final int RUNS = 700;
  /** Behind as many calls of one object the document promises nothing. */
  private static final int CALLS = 512;
  /** Telling a rule takes the most: end(), 19 times feed(), end(), rule() and 4 times fault(). */
  private static final int DEAREST = 26;
  private static final String[] WORDS = {"or", "and", "not", "has", "heads", "weight", "members", "all", "of", "(", ")", "<", "=", ">", "+", "-", "*", ";", "1", "0", "9", "10", "6", "1234", "12345", "x", "Heads", "#", "\n", "0003"};

  private static long wrong = 0;
  private final Random random;
  private final DivisionHall hall = new DivisionHall();
  private final Model model = new Model();
  private final int run;
  private final int most;
  private int told = 0;
  private String text = "";
  private int calls = 0;

  private ModelTest(int run) {
    this.run = run;
    random = new Random(run);
    // most runs stay small, so that the model can seek trades and orders
    most = run % 10 == 0 ? 10 : 2 + random.nextInt(6);
  }

  private int below(int n) { return random.nextInt(n); }
  private boolean chance(int percent) { return below(100) < percent; }
  /** Mostly a number from 0 to n - 1, now and then one that is just or far outside. */
  private int about(int n) {
    if (!chance(4)) return below(n);
    int[] others = {-1, n, -2, n + 1, Integer.MAX_VALUE, Integer.MIN_VALUE, 31, 32, 64, 1 << 30};
    return others[below(others.length)];
  }
  private int aSet(int of) { return chance(4) ? about(1024) : below(1024) & of; }
  private int yes(boolean b) { return b ? 1 : 0; }

  private void due(String call, long got, long want) {
    calls++;
    if (got == want) return;
    wrong++;
    if (wrong < 40) System.out.println("run " + run + ": " + call + " answered " + got + ", due is " + want + " (last text: " + text + ")");
  }

  private String sum(int depth) {
    String[] units = {"heads", "weight", "members", "all", "heads of " + below(6), "weight of " + below(6), "" + below(4), "" + below(40), "2"};
    StringBuilder b = new StringBuilder(units[below(units.length)]);
    for (int n = below(3); n > 0 && depth < 6; n--) b.append(blank()).append("+-**".charAt(below(4))).append(blank()).append(units[below(units.length)]);
    return b.toString();
  }
  private String blank() { return chance(70) ? "" : chance(80) ? " " : "\n "; }
  private String clause(int depth) {
    if (chance(25)) return "has " + below(10);
    if (chance(20) && depth < 10) return "not " + clause(depth + 1);
    if (chance(25) && depth < 10) return "(" + blank() + either(depth + 1) + blank() + ")";
    if (chance(50)) return (chance(50) ? "weight*2>all" : "heads*2>members");
    return sum(depth) + blank() + "<=>".charAt(below(3)) + blank() + sum(depth);
  }
  private String either(int depth) {
    StringBuilder b = new StringBuilder(clause(depth));
    for (int n = below(3); n > 0; n--) b.append(chance(50) ? " and " : " or ").append(clause(depth + 1));
    return b.toString();
  }
  private String aText() {
    if (chance(4)) return chance(30) ? "" : (chance(50) ? " " : "\n").repeat(1 + below(chance(90) ? 4 : 380)) + blank();
    StringBuilder b = new StringBuilder();
    if (chance(8)) {
      for (int n = below(30); n >= 0; n--) b.append(WORDS[below(WORDS.length)]).append(blank());
    } else if (chance(5)) {
      for (int n = 6 + below(4); n > 0; n--) b.append(chance(50) ? "not " : "(");
      b.append(either(0)).append(";");
    } else {
      b.append(blank()).append(either(0)).append(blank()).append(";").append(blank());
    }
    if (chance(12) && b.length() > 0) {
      int at = below(b.length());
      String other = WORDS[below(WORDS.length)];
      if (chance(50)) b.insert(at, other);
      else b.replace(at, Math.min(b.length(), at + 1 + below(3)), chance(50) ? "" : other);
    }
    return b.length() > 380 ? b.substring(0, 380) : b.toString();
  }

  private void feedText(String s) {
    text = s;
    due("end(0)", yes(hall.end(0)), yes(model.end(0)));
    for (int at = 0; at < s.length(); at += 20) {
      int[] five = new int[5];
      for (int i = 0; i < 20; i++) five[i / 4] = five[i / 4] << 8 | (at + i < s.length() ? s.charAt(at + i) : 32);
      due("feed", hall.feed(five[0], five[1], five[2], five[3], five[4]), model.feed(five));
    }
    due("end(" + s.length() + ")", yes(hall.end(s.length())), yes(model.end(s.length())));
  }

  private void tellRule() {
    feedText(aText());
    int r = about(4);
    due("rule(" + r + ")", yes(hall.rule(r)), yes(model.rule(r)));
    for (int what = -1; what < 3; what++) due("fault(" + what + ")", hall.fault(what), model.fault(what));
  }

  private void tellShift() {
    if (chance(10)) told = Math.min(999, told + below(60));
    int m = about(most), day = chance(60) ? about(1000) : below(20), w = chance(50) ? about(100) : below(6), b = chance(8) ? -1 : about(6);
    int on = chance(5) ? about(1000) : told;
    if (on > told && on < 1000) on = told;
    due("shift(" + m + ", " + day + ", " + w + ", " + b + ", " + on + ")", yes(hall.shift(m, day, w, b, on)), yes(model.shift(m, day, w, b, on)));
  }

  private int anOrder() {
    if (chance(5)) return about(1000000);
    if (chance(5)) return -1;
    StringBuilder b = new StringBuilder("012345");
    for (int i = 5; i > 0; i--) {
      int j = below(i + 1);
      char c = b.charAt(i);
      b.setCharAt(i, b.charAt(j));
      b.setCharAt(j, c);
    }
    return Integer.parseInt(b.toString());
  }

  private int someDigits() {
    if (chance(10)) return chance(50) ? about(10000000) : 9000000 + below(1000000);
    int digits = 9;
    int order = anOrder();
    for (int n = 1 + below(6); n > 0; n--) {
      digits = digits * 10 + Math.abs(order) % 10;
      order /= 10;
    }
    return digits;
  }

  private void oneCall(int kind) {
    int r = about(4), what = about(4), m = about(most), set = aSet(model.in());
    switch (kind) {
      case 0: tellShift(); break;
      case 1: tellRule(); break;
      case 2: {
        int d = chance(50) ? 999 : about(1000), k = chance(50) ? 999 : about(1000);
        due("view(" + d + ", " + k + ")", yes(hall.view(d, k)), yes(model.view(d, k)));
        break;
      }
      case 3: due("of(" + m + ", " + what + ")", hall.of(m, what), model.of(m, what)); break;
      case 4: what = about(6); due("look(" + what + ")", hall.look(what), model.look(what)); break;
      case 5: due("carries(" + r + ", " + set + ")", hall.carries(r, set), model.carries(r, set)); break;
      case 6: what = about(2); due("leasts(" + r + ", " + what + ")", hall.leasts(r, what), model.leasts(r, what)); break;
      case 7: {
        int i = about(5);
        what = about(2);
        due("least(" + r + ", " + what + ", " + i + ")", hall.least(r, what, i), model.least(r, what, i));
        break;
      }
      case 8:
        what = about(model.howManyIn() > 8 ? 3 : 5);
        due("power(" + r + ", " + m + ", " + what + ")", hall.power(r, m, what), model.power(r, m, what));
        break;
      case 9: what = about(2); due("odd(" + r + ", " + what + ")", hall.odd(r, what), model.odd(r, what)); break;
      case 10: {
        int j = about(most);
        due("worth(" + r + ", " + m + ", " + j + ")", hall.worth(r, m, j), model.worth(r, m, j));
        break;
      }
      case 11:
        if (model.howManyIn() < 8) due("trade(" + r + ", " + what + ")", hall.trade(r, what), model.trade(r, what));
        break;
      case 12: {
        int a = about(1000), b = chance(50) ? about(1000) : Math.min(999, Math.max(0, a) + below(40)), k = about(1000);
        if (b - (long) a > 60 && !chance(10)) b = a;
        int any = aSet(1023 >> 10 - Math.min(10, most));
        due("days(" + r + ", " + any + ", " + a + ", " + b + ", " + k + ")", hall.days(r, any, a, b, k), model.days(r, any, a, b, k));
        break;
      }
      case 13: {
        int order = anOrder();
        due("wish(" + m + ", " + order + ")", yes(hall.wish(m, order)), yes(model.wish(m, order)));
        break;
      }
      case 14: {
        int a = about(6), b = about(6);
        due("support(" + a + ", " + b + ")", hall.support(a, b), model.support(a, b));
        break;
      }
      default: laterCall(kind, r, what); break;
    }
  }

  private void laterCall(int kind, int r, int what) {
    boolean sight = chance(50);
    int x = about(6);
    switch (kind) {
      case 15: {
        int digits = someDigits();
        due("agenda(" + r + ", " + digits + ", " + sight + ")", hall.agenda(r, digits, sight), model.agenda(r, digits, sight));
        break;
      }
      case 16: {
        int set = about(64), w = about(2);
        if (Integer.bitCount(set) > 4 && !chance(15)) set &= 27;
        due("through(" + r + ", " + set + ", " + x + ", " + sight + ", " + w + ")", hall.through(r, set, x, sight, w), model.through(r, set, x, sight, w));
        break;
      }
      case 17: {
        int set = about(64);
        due("best(" + r + ", " + set + ")", hall.best(r, set), model.best(r, set));
        break;
      }
      case 18: {
        int p = chance(50) ? about(100) : below(5);
        due("line(" + x + ", " + p + ")", yes(hall.line(x, p)), yes(model.line(x, p)));
        break;
      }
      case 19: due("coalition(" + r + ", " + what + ")", hall.coalition(r, what), model.coalition(r, what)); break;
      case 20: {
        int p = about(8), v = chance(50) ? about(100) : below(6);
        due("value(" + p + ", " + x + ", " + v + ")", yes(hall.value(p, x, v)), yes(model.value(p, x, v)));
        break;
      }
      case 21: {
        int c = chance(80) ? below(64) & model.look(3) : about(64), posts = about(256), way = about(2), w = chance(40) ? about(8) : about(30);
        if (sight && Integer.bitCount(posts) > 5 && !chance(5)) posts &= 0x9B;
        due("deal(" + c + ", " + posts + ", " + way + ", " + sight + ", " + w + ")", hall.deal(c, posts, way, sight, w), model.deal(c, posts, way, sight, w));
        break;
      }
      default: {
        int[] five = new int[5];
        for (int i = 0; i < 5; i++) five[i] = random.nextInt();
        if (chance(50)) due("feed", hall.feed(five[0], five[1], five[2], five[3], five[4]), model.feed(five));
        else {
          int n = about(400);
          due("end(" + n + ")", yes(hall.end(n)), yes(model.end(n)));
        }
        break;
      }
    }
  }

  private void go() {
    for (int m = 0; m < most; m++) {
      due("member()", hall.member(), model.member());
      int w = below(8), b = below(6);
      due("shift", yes(hall.shift(m, 0, w, b, 0)), yes(model.shift(m, 0, w, b, 0)));
      int order = anOrder();
      due("wish", yes(hall.wish(m, order)), yes(model.wish(m, order)));
    }
    for (int b = 0; b < 6; b++) {
      int p = below(100);
      due("line", yes(hall.line(b, p)), yes(model.line(b, p)));
      for (int p2 = 0; p2 < 8; p2++) {
        int v = below(12);
        due("value", yes(hall.value(p2, b, v)), yes(model.value(p2, b, v)));
      }
    }
    while (calls <= CALLS - DEAREST) {
      int kind = below(23);
      // changes are rarer than questions
      if (kind <= 2 && chance(50)) kind = 5 + below(13);
      oneCall(kind);
    }
    if (most == 10 && calls < CALLS) due("member()", hall.member(), model.member());
  }

  public static void main(String[] args) {
    int runs = args.length > 0 ? Integer.parseInt(args[0]) : RUNS;
    for (int run = 0; run < runs; run++) new ModelTest(run).go();
    System.out.println(wrong == 0 ? "ModelTest: " + runs + " runs as due" : "ModelTest: " + wrong + " answers are not as due");
    if (wrong != 0) System.exit(1);
  }
}
