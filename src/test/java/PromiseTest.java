/** For each promise of the document ordinary calls, the edges that it names, and wrong inputs. */
public final class PromiseTest {
  private static int wrong = 0;
  private static String promise = "";

  private static void due(String call, long got, long want) {
    if (got == want) return;
    wrong++;
    System.out.println(promise + ": " + call + " answered " + got + ", due is " + want);
  }
  private static void due(String call, boolean got, boolean want) { due(call, got ? 1 : 0, want ? 1 : 0); }

  /** The text's bytes alone on the tape, whatever was on it. */
  private static void tape(DivisionHall h, String text) {
    h.end(0);
    for (int at = 0; at < text.length(); at += 20) {
      int[] n = new int[5];
      for (int i = 0; i < 20; i++) n[i / 4] = n[i / 4] << 8 | (at + i < text.length() ? text.charAt(at + i) : 0);
      h.feed(n[0], n[1], n[2], n[3], n[4]);
    }
    due("end", h.end(text.length()), true);
  }
  private static void rule(DivisionHall h, int r, String text) {
    tape(h, text);
    due("rule " + text, h.rule(r), true);
    due("fault(0) of " + text, h.fault(0), 0);
    due("fault(1) of " + text, h.fault(1), -1);
  }
  private static void faulty(DivisionHall h, String text, int kind, int place) {
    tape(h, text);
    due("rule " + text, h.rule(2), false);
    due("fault(0) of " + text, h.fault(0), kind);
    due("fault(1) of " + text, h.fault(1), place);
  }
  /** Members 0 .. with these weights, each one of the bloc of its number (6: 0 again). */
  private static DivisionHall hall(int... weights) {
    DivisionHall h = new DivisionHall();
    for (int i = 0; i < weights.length; i++) {
      due("member()", h.member(), i);
      due("shift", h.shift(i, 0, weights[i], i % 6, 0), true);
    }
    return h;
  }

  private static void newObject() {
    DivisionHall h = new DivisionHall();
    int[] looks = {0, 0, 0, 0, 999, 999};
    for (int what = 0; what < 6; what++) due("look " + what, h.look(what), looks[what]);
    for (int r = 0; r < 4; r++) {
      due("carries " + r, h.carries(r, 0), 0);
      due("leasts " + r, h.leasts(r, 0), 0);
      due("leasts " + r, h.leasts(r, 1), 1);
      due("least " + r, h.least(r, 1, 0), 0);
      due("coalition " + r, h.coalition(r, 3), 0);
    }
    due("fault", h.fault(0), 0);
    due("fault", h.fault(1), -1);
    due("NONE", DivisionHall.NONE, -1);
    due("feed", h.feed(0, 0, 0, 0, 0), 20);
  }

  private static void member() {
    DivisionHall h = new DivisionHall();
    for (int i = 0; i < 10; i++) {
      due("member()", h.member(), i);
      due("look(0)", h.look(0), i + 1);
    }
    due("member()", h.member(), -1);
    due("look(0)", h.look(0), 10);
    due("look(1)", h.look(1), 0);
  }

  private static void shift() {
    DivisionHall h = new DivisionHall();
    due("nobody's", h.shift(0, 0, 0, 0, 0), false);
    h.member();
    int[][] bad = {{-1, 0, 0, 0, 0}, {1, 0, 0, 0, 0}, {0, -1, 0, 0, 0}, {0, 1000, 0, 0, 0}, {0, 0, -1, 0, 0}, {0, 0, 100, 0, 0},
      {0, 0, 0, -2, 0}, {0, 0, 0, 6, 0}, {0, 0, 0, 0, -1}, {0, 0, 0, 0, 1000}, {10, 0, 0, 0, 0}, {0, 0, 100, -1, 0}};
    for (int[] b : bad) due("a wrong shift", h.shift(b[0], b[1], b[2], b[3], b[4]), false);
    due("look(2)", h.look(2), 0);
    due("shift", h.shift(0, 999, 99, 5, 7), true);
    due("told below", h.shift(0, 0, 1, 1, 6), false);
    due("told alike", h.shift(0, 5, 3, 1, 7), true);
    due("of the latest day", h.of(0, 0), 99);
    due("told later, of an earlier day", h.shift(0, 4, 44, 1, 8), true);
    due("of", h.of(0, 0), 99);
    due("the same day, told later", h.shift(0, 999, 98, 4, 8), true);
    due("of", h.of(0, 0), 98);
    due("the same day, told on the same day", h.shift(0, 999, 97, 3, 8), true);
    due("of", h.of(0, 0), 97);
    due("view", h.view(999, 7), true);
    due("of as known", h.of(0, 0), 99);
    due("view", h.view(999, 6), true);
    due("of nothing known", h.of(0, 0), -1);
    due("view", h.view(3, 999), true);
    due("of a day ahead of all", h.of(0, 0), -1);
    due("view", h.view(4, 999), true);
    due("of", h.of(0, 0), 44);
    due("view", h.view(999, 999), true);
    due("out", h.shift(0, 999, 0, -1, 999), true);
    due("look(1)", h.look(1), 0);
    due("in again", h.shift(0, 999, 0, 0, 999), true);
    due("look(1)", h.look(1), 1);
    for (int i = h.look(2); i < 200; i++) due("shift " + i, h.shift(0, i, 1, 1, 999), true);
    due("look(2)", h.look(2), 200);
    due("the 201st", h.shift(0, 0, 1, 1, 999), false);
    due("look(2)", h.look(2), 200);
  }

  private static void view() {
    DivisionHall h = hall(5);
    int[][] bad = {{-1, 0}, {1000, 0}, {0, -1}, {0, 1000}};
    for (int[] b : bad) due("a wrong view", h.view(b[0], b[1]), false);
    due("look(4)", h.look(4), 999);
    due("look(5)", h.look(5), 999);
    due("view", h.view(0, 999), true);
    due("look(4)", h.look(4), 0);
    due("look(5)", h.look(5), 999);
    due("shift", h.shift(0, 1, 6, 2, 3), true);
    rule(h, 0, "weight>5;");
    due("carries", h.carries(0, 1), 0);
    due("view", h.view(1, 2), true);
    due("carries", h.carries(0, 1), 0);
    due("view", h.view(1, 3), true);
    due("carries", h.carries(0, 1), 1);
    due("leasts", h.leasts(0, 0), 1);
    due("view", h.view(0, 3), true);
    due("leasts", h.leasts(0, 0), 0);
  }

  private static void of() {
    DivisionHall h = hall(5, 7);
    due("WEIGHT", h.of(1, 0), 7);
    due("BLOC", h.of(1, 1), 1);
    due("WISH", h.of(1, 2), -1);
    due("wish", h.wish(1, 321045), true);
    due("WISH", h.of(1, 2), 3);
    due("wish", h.wish(0, 12345), true);
    due("WISH", h.of(0, 2), 0);
    due("out", h.shift(1, 3, 0, -1, 0), true);
    due("WEIGHT of one out", h.of(1, 0), -1);
    due("BLOC of one out", h.of(1, 1), -1);
    due("WISH of one out", h.of(1, 2), 3);
    due("what 3", h.of(0, 3), -1);
    due("what -1", h.of(0, -1), -1);
    due("none such", h.of(2, 0), -1);
    due("none such", h.of(2, 2), -1);
    due("none such", h.of(-1, 2), -1);
    due("none such", h.of(33, 0), -1);
  }

  private static void look() {
    DivisionHall h = hall(1, 1, 1, 1, 1, 1, 1);
    int[] looks = {7, 127, 7, 63, 999, 999};
    for (int what = 0; what < 6; what++) due("look " + what, h.look(what), looks[what]);
    due("look 6", h.look(6), -1);
    due("look -1", h.look(-1), -1);
    due("member", h.member(), 7);
    due("look 1", h.look(1), 127);
    h.shift(0, 1, 1, -1, 0);
    due("look 1", h.look(1), 126);
    due("another of the bloc", h.look(3), 63);
    h.shift(6, 1, 1, 3, 0);
    due("none of the bloc any more", h.look(3), 62);
  }

  private static void feedAndEnd() {
    DivisionHall h = hall(1);
    promise = "promise 7";
    for (int n = 20; n <= 400; n += 20) due("feed", h.feed(-1, Integer.MIN_VALUE, 0, 1, 2), n);
    due("feed beyond", h.feed(0, 0, 0, 0, 0), -1);
    due("end", h.end(381), true);
    due("feed beyond", h.feed(0, 0, 0, 0, 0), -1);
    due("it has as many still", h.end(382), false);
    due("end", h.end(380), true);
    due("feed", h.feed(0, 0, 0, 0, 0), 400);
    due("the highest byte first", h.end(0), true);
    due("feed", h.feed(0x68656164, 0x733e303b, 0x20202020, 0x20202020, 0x20202020), 20);
    due("rule", h.rule(0), true);
    due("heads>0;", h.carries(0, 1), 1);
    due("a byte above 127", h.feed(0x68656164, 0x733e30c3, 0, 0, 0), 20);
    due("rule", h.rule(0), false);
    due("its place", h.fault(1), 7);
    promise = "promise 8";
    due("end", h.end(1), false);
    due("end", h.end(-1), false);
    due("end", h.end(0), true);
    due("feed", h.feed(0x3120, 0, 0, 0, 0), 20);
    due("end", h.end(21), false);
    due("end", h.end(Integer.MIN_VALUE), false);
    due("end", h.end(Integer.MAX_VALUE), false);
    due("end", h.end(20), true);
    due("end", h.end(3), true);
    due("end", h.end(4), false);
    due("feed", h.feed(0, 0, 0, 0, 0), 23);
  }

  private static void rule() {
    DivisionHall h = hall(4, 3, 2);
    rule(h, 0, "has 0;");
    due("carries", h.carries(0, 1), 1);
    for (int r : new int[] {4, -1, Integer.MIN_VALUE, Integer.MAX_VALUE}) {
      tape(h, "has 1;");
      due("none such", h.rule(r), false);
      due("the tape is empty", h.end(1), false);
      due("feed behind an empty tape", h.feed(0, 0, 0, 0, 0), 20);
      due("end", h.end(0), true);
    }
    due("the rule stays", h.carries(0, 1), 1);
    tape(h, "has 1;");
    due("rule", h.rule(1), true);
    due("the tape is empty", h.end(1), false);
    due("carries", h.carries(1, 2), 1);
    due("carries", h.carries(1, 1), 0);
    tape(h, "has x;");
    due("a fault", h.rule(0), false);
    due("the tape is empty", h.end(1), false);
    due("the rule stays", h.carries(0, 1), 1);
    tape(h, "has 1;");
    due("none such", h.rule(9), false);
    due("the fault of 0 .. 3", h.fault(0), 1);
    due("the fault of 0 .. 3", h.fault(1), 4);
    tape(h, "has 12;");
    due("none such", h.rule(-1), false);
    due("the fault of 0 .. 3", h.fault(0), 1);
    due("the fault of 0 .. 3", h.fault(1), 4);
    due("empty", h.rule(0), true);
    due("fault", h.fault(0), 0);
    due("nothing carries", h.carries(0, 1), 0);
    due("nothing carries", h.leasts(0, 0), 0);
    for (String blanks : new String[] {" ", "\n", "   ", " \n\n ", " ".repeat(400)}) {
      rule(h, 0, "has 0;");
      due("carries", h.carries(0, 1), 1);
      tape(h, "has x;");
      due("a fault", h.rule(1), false);
      rule(h, 0, blanks);
      due("the tape is empty", h.end(1), false);
      for (int set = 0; set < 8; set++) due("nothing carries by blanks alone", h.carries(0, set), 0);
      due("nothing carries by blanks alone", h.leasts(0, 0), 0);
    }
    StringBuilder longest = new StringBuilder("1");
    for (int i = 0; i < 198; i++) longest.append("+1");
    rule(h, 3, longest + "=1;");
    due("199 is not 1", h.carries(3, 0), 0);
    due("length", longest.length() + 3, 400);
  }

  private static void grammar() {
    DivisionHall h = hall(4, 3, 2);
    h.shift(2, 0, 2, 1, 0);
    h.member();
    String[] so = {"2+3*4=14;", "2*3+4=10;", "5-3-1=1;", "9-2*3+1=4;", "9999*9999*9999<0;", "0-1<0;", "4096*4096*256=0;", "2048*1024*1024<0;", "1<2;", "2>1;",
      "0001=1;", " 1 = 1 \n ; \n", "1=1and 2=2;", "not 1=2 and 1=1;", "1=1 or 1=1 and 1=2;", "(1=2 or 1=1) and 1=1;", "not (1=1 and 1=2);",
      "members=3;", "all=9;", "heads=2;", "weight=6;", "heads of 0=1;", "heads of 1=1;", "heads of 2=0;", "weight of 0=4;", "weight of 1=2;",
      "has 0;", "has 2 and not has 1;", "has2;", "not has 9;", "heads*2>members and weight*2>all;", "((((((((1=1))))))));", "not not not not not not not not 1=1;",
      "weight of 1+weight of 0=weight;", "1=2 or 1=2 or 1=1;", "1+1+1*2*2-1*2=4;", "not(not(not(not 1=1)));", "has 0009 or 1=1;", "heads of 0005=0;",
      "not 1=2 and not 1=2 and not 1=2 and not 1=2 and not 1=2 and not 1=2 and not 1=2 and not 1=2 and not 1=2 and not 1=2;",
      "(1=1)and(1=1)and(1=1)and(1=1)and(1=1)and(1=1)and(1=1)and(1=1)and(1=1)and(1=1);",
      "not not not not not not not not 1=1 and not not not not not not not not 1=1;"};
    for (String s : so) {
      rule(h, 0, s);
      due("of members 0 and 2: " + s, h.carries(0, 5), 1);
    }
    String[] notSo = {"1>1;", "1<1;", "1=2;", "not 1=1;", "not has 0;", "has 1;", "has 3;", "1=1 and 1=2;", "1=2 or 1=2;", "not 1=1 or 1=2;", "(1=1 or 1=1) and 1=2;",
      "heads of 1=2;", "1=2 and 1=1 or 1=2;", "not not 1=2;"};
    for (String s : notSo) {
      rule(h, 0, s);
      due("of members 0 and 2: " + s, h.carries(0, 5), 0);
    }
  }

  private static void faults() {
    DivisionHall h = hall(1, 1);
    rule(h, 2, "has 1;");
    faulty(h, ";", 1, 0);
    faulty(h, " ;", 1, 1);
    faulty(h, "   \t", 1, 3);
    faulty(h, " \r\n", 1, 1);
    faulty(h, "\0", 1, 0);
    faulty(h, "not ", 1, 4);
    faulty(h, "( ", 1, 2);
    faulty(h, "1=1 and \n", 1, 9);
    faulty(h, "heads>1", 1, 7);
    faulty(h, "heads>1 \n ", 1, 10);
    faulty(h, "heads>1;;", 1, 8);
    faulty(h, "heads>1; x", 1, 9);
    faulty(h, "has 10;", 2, 4);
    faulty(h, "has 12345;", 1, 4);
    faulty(h, "has 9999;", 2, 4);
    faulty(h, "has 0010 x;", 2, 4);
    faulty(h, "heads of 6>1;", 2, 9);
    faulty(h, "1=weight of 0006;", 2, 12);
    faulty(h, "1=12345;", 1, 2);
    faulty(h, "has;", 1, 3);
    faulty(h, "has heads;", 1, 4);
    faulty(h, "heads of;", 1, 8);
    faulty(h, "heads of of 1;", 1, 9);
    faulty(h, "members of 1>0;", 1, 8);
    faulty(h, "all of 1>0;", 1, 4);
    faulty(h, "of 1>0;", 1, 0);
    faulty(h, "not;", 1, 3);
    faulty(h, "()", 1, 1);
    faulty(h, "(heads>1;", 1, 8);
    faulty(h, "heads>1);", 1, 7);
    faulty(h, "(heads>1));", 1, 9);
    faulty(h, "(heads)>1;", 1, 6);
    faulty(h, "heads>1>2;", 1, 7);
    faulty(h, "heads>(1);", 1, 6);
    faulty(h, "heads;", 1, 5);
    faulty(h, "heads and 1=1;", 1, 6);
    faulty(h, "1=1 and;", 1, 7);
    faulty(h, "1=1 or or 1=1;", 1, 7);
    faulty(h, "1=1 1=1;", 1, 4);
    faulty(h, "1=1+;", 1, 4);
    faulty(h, "1=+1;", 1, 2);
    faulty(h, "-1=1;", 1, 0);
    faulty(h, "1=1+not 1=1;", 1, 4);
    faulty(h, "1=has 1;", 1, 2);
    faulty(h, "has 1=1;", 1, 5);
    faulty(h, "has 1+1=1;", 1, 5);
    faulty(h, "(1=1)+1=1;", 1, 5);
    faulty(h, "(1=1)(1=1);", 1, 5);
    faulty(h, "HEADS>1;", 1, 0);
    faulty(h, "1<headsX;", 1, 2);
    faulty(h, "andand", 1, 0);
    faulty(h, "headsz>1;", 1, 0);
    faulty(h, "headsA>1;", 1, 0);
    faulty(h, "headsZ>1;", 1, 0);
    faulty(h, "heads[>1;", 1, 5);
    StringBuilder longest = new StringBuilder("1=1");
    for (int i = 0; i < 198; i++) longest.append("+1");
    faulty(h, longest + "+", 1, 400);
    faulty(h, "heads1>1;", 1, 5);
    faulty(h, "heads\t>1;", 1, 5);
    faulty(h, "heads>=1;", 1, 6);
    faulty(h, "heads>1" + (char) 233 + ";", 1, 7);
    faulty(h, "1=1#;", 1, 3);
    faulty(h, "(((((((((", 3, 8);
    faulty(h, "(((((((( not 1=1", 3, 9);
    faulty(h, "((((((((heads(", 1, 13);
    faulty(h, "((((((((1=1(", 1, 11);
    faulty(h, "((((((((", 1, 8);
    faulty(h, "not(not(not(not(not heads>1", 3, 16);
    faulty(h, "(((((((not 1=1 and ((", 3, 20);
    faulty(h, "(((((((not 1=1 and not not 1=1", 3, 23);
    faulty(h, "has 10 (((((((((", 2, 4);
    due("what 2", h.fault(2), -1);
    due("what -1", h.fault(-1), -1);
    due("the rule of old stays", h.carries(2, 2), 1);
    due("the rule of old stays", h.carries(2, 1), 0);
    rule(h, 2, "has 0;");
  }

  private static void carries() {
    DivisionHall h = hall(3, 2, 1);
    rule(h, 0, "weight*2>all;");
    int[] so = {0, 0, 0, 1, 0, 1, 0, 1};
    for (int set = 0; set < 8; set++) due("carries " + set, h.carries(0, set), so[set]);
    due("one that never came", h.carries(0, 8), -1);
    due("below 0", h.carries(0, -1), -1);
    due("far", h.carries(0, 1 << 20), -1);
    due("no such rule", h.carries(4, 0), -1);
    due("no such rule", h.carries(-1, 0), -1);
    h.shift(1, 0, 0, -1, 0);
    due("one that is out", h.carries(0, 2), -1);
    due("all are fewer now", h.carries(0, 1), 1);
    due("leasts", h.leasts(0, 0), 1);
    h.shift(1, 0, 9, 0, 0);
    due("in again", h.carries(0, 5), 0);
    due("in again", h.carries(0, 2), 1);
  }

  private static void leasts() {
    DivisionHall h = hall(3, 2, 1, 1);
    rule(h, 0, "weight>3;");
    promise = "promise 12";
    due("leasts", h.leasts(0, 0), 4);
    due("stopping", h.leasts(0, 1), 4);
    due("what 2", h.leasts(0, 2), -1);
    due("what -1", h.leasts(0, -1), -1);
    due("no such rule", h.leasts(4, 0), -1);
    promise = "promise 13";
    int[] sets = {3, 5, 9, 14};
    for (int i = 0; i < 4; i++) {
      due("least " + i, h.least(0, 0, i), sets[i]);
      due("stopping " + i, h.least(0, 1, i), sets[i]);
    }
    due("the next", h.least(0, 0, 4), -1);
    due("below 0", h.least(0, 0, -1), -1);
    due("what 2", h.least(0, 2, 0), -1);
    due("no such rule", h.least(-1, 0, 0), -1);
    rule(h, 1, "heads=1 and has 0 or heads=3;");
    due("no set within one, not only with one less", h.leasts(1, 0), 2);
    due("least", h.least(1, 0, 0), 1);
    due("least", h.least(1, 0, 1), 14);
    rule(h, 1, "heads=0 or heads=4;");
    due("the empty set", h.leasts(1, 0), 1);
    due("the empty set", h.least(1, 0, 0), 0);
    due("stopping", h.leasts(1, 1), 4);
    due("stopping", h.least(1, 1, 3), 8);
    rule(h, 1, "1=1;");
    due("nothing stops", h.leasts(1, 1), 0);
    due("nothing stops", h.least(1, 1, 0), -1);
    DivisionHall ten = hall(1, 1, 1, 1, 1, 1, 1, 1, 1, 1);
    rule(ten, 0, "heads=5;");
    due("ten", ten.leasts(0, 0), 252);
    due("ten", ten.least(0, 0, 0), 31);
    due("ten", ten.least(0, 0, 251), 992);
    due("ten", ten.least(0, 0, 252), -1);
  }

  private static void power() {
    DivisionHall h = hall(3, 2, 1);
    rule(h, 0, "weight*2>all;");
    long[][] due = {{3, 3, 4, 2, 3}, {1, 1, 4, 1, 6}, {1, 1, 4, 1, 6}};
    for (int m = 0; m < 3; m++) for (int what = 0; what < 5; what++) due("power " + m + " " + what, h.power(0, m, what), due[m][what]);
    due("what 5", h.power(0, 0, 5), -1);
    due("what -1", h.power(0, 0, -1), -1);
    due("none such", h.power(0, 3, 0), -1);
    due("none such", h.power(0, -1, 0), -1);
    due("no such rule", h.power(4, 0, 0), -1);
    long[] nothing = {0, 0, 1, 0, 1};
    for (int what = 0; what < 5; what++) due("of an empty rule " + what, h.power(1, 0, what), nothing[what]);
    h.shift(1, 0, 0, -1, 0);
    due("out", h.power(0, 1, 0), -1);
    long[] alone = {2, 1, 1, 1, 1};
    for (int what = 0; what < 5; what++) due("a dictator's " + what, h.power(0, 0, what), alone[what]);
    DivisionHall one = hall(1);
    rule(one, 0, "has 0;");
    long[] single = {1, 1, 1, 1, 1};
    for (int what = 0; what < 5; what++) due("the only one's " + what, one.power(0, 0, what), single[what]);
    DivisionHall ten = hall(1, 1, 1, 1, 1, 1, 1, 1, 1, 1);
    rule(ten, 0, "heads*2>members;");
    rule(ten, 1, "has 0 and has 1 and heads>4;");
    long[] equal = {126, 63, 256, 1, 10};
    long[] veto = {219, 219, 512, 13, 30};
    long[] plain = {21, 21, 512, 1, 60};
    for (int what = 0; what < 5; what++) {
      due("one of ten " + what, ten.power(0, 9, what), equal[what]);
      due("with a veto " + what, ten.power(1, 1, what), veto[what]);
      due("without one " + what, ten.power(1, 2, what), plain[what]);
    }
    rule(ten, 2, "heads=1 or heads=3;");
    due("a rule that falls again", ten.power(2, 0, 0), 1 + 36);
    due("turns", ten.power(2, 0, 3), 1);
    due("turns", ten.power(2, 0, 4), 5);
  }

  private static void odd() {
    DivisionHall h = hall(1, 1, 1);
    rule(h, 0, "has 1 and not has 2;");
    due("set", h.odd(0, 0), 2);
    due("member", h.odd(0, 1), 2);
    due("what 2", h.odd(0, 2), -1);
    due("what -1", h.odd(0, -1), -1);
    due("no such rule", h.odd(4, 0), -1);
    rule(h, 0, "heads>1;");
    due("none", h.odd(0, 0), -1);
    due("none", h.odd(0, 1), -1);
    rule(h, 0, "heads=0;");
    due("the empty set", h.odd(0, 0), 0);
    due("member", h.odd(0, 1), 0);
    h.shift(0, 0, 0, -1, 0);
    due("member", h.odd(0, 1), 1);
  }

  private static void worth() {
    DivisionHall h = hall(3, 2, 1, 2);
    rule(h, 0, "weight>4;");
    due("more", h.worth(0, 0, 2), 1);
    due("less", h.worth(0, 2, 0), 2);
    due("alike", h.worth(0, 1, 3), 3);
    rule(h, 1, "has 0 and has 1 or has 2 and has 3;");
    due("neither", h.worth(1, 0, 2), 0);
    due("alike", h.worth(1, 2, 3), 3);
    due("the same", h.worth(0, 1, 1), -1);
    due("none such", h.worth(0, 1, 4), -1);
    due("none such", h.worth(0, -1, 1), -1);
    due("no such rule", h.worth(4, 0, 1), -1);
    h.shift(2, 0, 0, -1, 0);
    due("out", h.worth(0, 0, 2), -1);
    due("out", h.worth(0, 2, 0), -1);
    due("an empty rule", h.worth(3, 0, 1), 3);
  }

  private static void trade() {
    DivisionHall h = hall(1, 1, 1, 1);
    rule(h, 0, "has 0 and has 1 or has 2 and has 3;");
    int[] crossing = {3, 12, 5, 10};
    for (int what = 0; what < 4; what++) due("trade " + what, h.trade(0, what), crossing[what]);
    due("what 4", h.trade(0, 4), -1);
    due("what -1", h.trade(0, -1), -1);
    due("no such rule", h.trade(4, 0), -1);
    rule(h, 1, "heads=1;");
    int[] single = {1, 2, 0, 3};
    for (int what = 0; what < 4; what++) due("trade " + what, h.trade(1, what), single[what]);
    rule(h, 1, "heads>1;");
    for (int what = 0; what < 4; what++) due("a weighing has none " + what, h.trade(1, what), -1);
    due("an empty rule", h.trade(3, 0), -1);
    h.shift(3, 0, 0, -1, 0);
    due("without member 3", h.trade(0, 0), -1);
    DivisionHall ten = hall(1, 2, 3, 4, 5, 6, 7, 8, 9, 10);
    rule(ten, 0, "weight*2>all;");
    due("ten weighed", ten.trade(0, 0), -1);
    rule(ten, 2, "has 6 and has 7 or has 8 and has 9;");
    int[] high = {192, 768, 320, 640};
    for (int what = 0; what < 4; what++) due("ten " + what, ten.trade(2, what), high[what]);
    rule(ten, 2, "has 8 and has 9;");
    due("changed", ten.trade(2, 0), -1);
  }

  private static void days() {
    DivisionHall h = new DivisionHall();
    h.member();
    h.member();
    h.shift(0, 10, 3, 0, 0);
    h.shift(1, 15, 2, 1, 0);
    h.shift(0, 20, 0, -1, 5);
    h.shift(1, 15, 9, 1, 6);
    rule(h, 0, "weight*2>all;");
    due("member 0", h.days(0, 1, 0, 999, 0), 990);
    due("member 0, as known later", h.days(0, 1, 0, 999, 5), 10);
    due("member 0, as known latest", h.days(0, 1, 0, 999, 999), 5);
    due("member 1", h.days(0, 2, 0, 999, 5), 980);
    due("both", h.days(0, 3, 0, 999, 0), 990);
    due("from 10 to 10", h.days(0, 3, 10, 10, 0), 1);
    due("from 9 to 9", h.days(0, 3, 9, 9, 0), 0);
    due("from 14 to 15", h.days(0, 1, 14, 15, 999), 1);
    due("the empty set", h.days(0, 0, 0, 999, 0), 0);
    due("one that never came", h.days(0, 4, 0, 1, 0), -1);
    due("below 0", h.days(0, -1, 0, 1, 0), -1);
    due("b below a", h.days(0, 1, 2, 1, 0), -1);
    due("a below 0", h.days(0, 1, -1, 1, 0), -1);
    due("b above 999", h.days(0, 1, 0, 1000, 0), -1);
    due("k above 999", h.days(0, 1, 0, 1, 1000), -1);
    due("k below 0", h.days(0, 1, 0, 1, -1), -1);
    due("no such rule", h.days(4, 1, 0, 1, 0), -1);
    due("an empty rule", h.days(1, 1, 0, 999, 0), 0);
    rule(h, 2, "members=0;");
    due("nobody in", h.days(2, 3, 0, 999, 0), 10);
    due("the view stays", h.look(1), 2);
    DivisionHall busy = new DivisionHall();
    busy.member();
    for (int i = 0; i < 200; i++) busy.shift(0, 5 * i, i % 2, 0, 0);
    rule(busy, 0, "weight>0;");
    due("200 shifts", busy.days(0, 1, 0, 999, 0), 500);
    DivisionHall busier = new DivisionHall();
    busier.member();
    for (int i = 0; i < 200; i++) busier.shift(0, 1 + 5 * i, i % 2, 0, 0);
    rule(busier, 0, "weight>0;");
    due("200 shifts, none from day 0", busier.days(0, 1, 0, 999, 0), 499);
    due("200 shifts, one day each", busier.days(0, 1, 0, 6, 0), 1);
  }

  private static void wish() {
    DivisionHall h = hall(1, 1);
    due("wish", h.wish(0, 543210), true);
    due("of", h.of(0, 2), 5);
    due("a leading 0 may lack", h.wish(0, 12345), true);
    due("of", h.of(0, 2), 0);
    int[] bad = {1234, 0, 543211, 643210, 1543210, 2012345, 9012345, -2, -12345, 543219, Integer.MAX_VALUE, Integer.MIN_VALUE};
    for (int order : bad) due("wish " + order, h.wish(0, order), false);
    due("nothing is done", h.support(4, 5), 1);
    due("none such", h.wish(2, 12345), false);
    due("none such", h.wish(2, -1), false);
    due("none such", h.wish(-1, 12345), false);
    due("no more", h.wish(0, -1), true);
    due("of", h.of(0, 2), -1);
    due("support", h.support(4, 5), 0);
    due("no more, once more", h.wish(0, -1), true);
  }

  private static void support() {
    DivisionHall h = hall(1, 1, 1);
    h.wish(0, 12345);
    h.wish(1, 354210);
    due("0 over 1", h.support(0, 1), 1);
    due("1 over 0", h.support(1, 0), 2);
    due("3 over 5", h.support(3, 5), 3);
    due("5 over 3", h.support(5, 3), 0);
    due("the same", h.support(2, 2), -1);
    due("none such", h.support(6, 2), -1);
    due("none such", h.support(2, 6), -1);
    due("none such", h.support(-1, 2), -1);
    due("none such", h.support(2, -1), -1);
    h.shift(0, 0, 0, -1, 0);
    due("out", h.support(3, 5), 2);
  }

  /** Three members whose wishes go round over 0, 1 and 2. */
  private static DivisionHall round() {
    DivisionHall h = hall(1, 1, 1);
    h.wish(0, 12345);
    h.wish(1, 120345);
    h.wish(2, 201345);
    rule(h, 1, "heads*2>members;");
    return h;
  }

  private static void agenda() {
    DivisionHall h = round();
    int[][] due = {{9012, 2, 1}, {9021, 1, 0}, {9102, 2, 1}, {9120, 0, 2}, {9201, 1, 0}, {9210, 0, 2}, {90, 0, 0}, {95, 5, 5}, {954, 4, 4}, {9543210, 0, 2}, {9012345, 2, 1}};
    for (int[] d : due) {
      due("agenda " + d[0], h.agenda(1, d[0], false), d[1]);
      due("agenda with sight " + d[0], h.agenda(1, d[0], true), d[2]);
    }
    int[] bad = {9, 0, 900, 96, 99, 909, 95432100, 80, 190, 8012, -90, 90123450, 92345678, Integer.MAX_VALUE, Integer.MIN_VALUE, 999999999};
    for (int digits : bad) {
      due("agenda " + digits, h.agenda(1, digits, false), -1);
      due("agenda with sight " + digits, h.agenda(1, digits, true), -1);
    }
    due("no such rule", h.agenda(4, 90, false), -1);
    due("an empty rule", h.agenda(0, 9210, true), 2);
    rule(h, 2, "1=1;");
    due("the next always comes", h.agenda(2, 9210, false), 0);
    due("what the next leads to", h.agenda(2, 9210, true), 0);
  }

  private static void through() {
    DivisionHall h = round();
    due("how many", h.through(1, 7, 2, false, 0), 2);
    due("the first", h.through(1, 7, 2, false, 1), 9012);
    due("how many with sight", h.through(1, 7, 1, true, 0), 2);
    due("the first with sight", h.through(1, 7, 1, true, 1), 9012);
    due("the first with sight", h.through(1, 7, 2, true, 1), 9120);
    due("none", h.through(1, 63, 5, false, 0), 0);
    due("none", h.through(1, 63, 5, false, 1), -1);
    int all = 0;
    for (int x = 0; x < 6; x++) all += h.through(1, 63, x, true, 0);
    due("all orders", all, 720);
    due("alone", h.through(1, 32, 5, false, 0), 1);
    due("alone", h.through(1, 32, 5, false, 1), 95);
    due("not of the set", h.through(1, 7, 3, false, 0), -1);
    due("no such set", h.through(1, 64, 0, false, 0), -1);
    due("no such set", h.through(1, 65, 0, false, 0), -1);
    due("no such set", h.through(1, -1, 0, false, 0), -1);
    due("the empty set", h.through(1, 0, 0, false, 0), -1);
    due("no such motion", h.through(1, 7, -1, false, 0), -1);
    due("no such motion", h.through(1, 7, 32, false, 0), -1);
    due("what 2", h.through(1, 7, 0, false, 2), -1);
    due("what -1", h.through(1, 7, 0, false, -1), -1);
    due("no such rule", h.through(4, 7, 0, false, 0), -1);
  }

  private static void best() {
    DivisionHall h = round();
    due("none goes over all", h.best(1, 7), -1);
    due("of two", h.best(1, 3), 0);
    due("of two", h.best(1, 6), 1);
    due("of two", h.best(1, 5), 2);
    due("of three", h.best(1, 56), 3);
    due("alone", h.best(1, 16), 4);
    due("by an empty rule", h.best(0, 3), -1);
    due("alone by an empty rule", h.best(0, 2), 1);
    due("the empty set", h.best(1, 0), -1);
    due("no such set", h.best(1, 64), -1);
    due("no such set", h.best(1, -1), -1);
    due("no such rule", h.best(4, 1), -1);
  }

  private static void coalitions() {
    DivisionHall h = hall(3, 2, 1, 4);
    promise = "promise 24";
    int[][] bad = {{-1, 0}, {6, 0}, {0, -1}, {0, 100}};
    for (int[] b : bad) due("a wrong place", h.line(b[0], b[1]), false);
    due("line", h.line(0, 99), true);
    due("line", h.line(5, 0), true);
    promise = "promise 25";
    rule(h, 0, "weight*2>all;");
    due("all others at 0", h.coalition(0, 0), 10);
    due("span", h.coalition(0, 1), 0);
    due("WEIGHT", h.coalition(0, 2), 6);
    h.line(0, 10);
    h.line(1, 20);
    h.line(2, 30);
    h.line(3, 40);
    due("the least span", h.coalition(0, 0), 7);
    due("span", h.coalition(0, 1), 20);
    due("WEIGHT", h.coalition(0, 2), 6);
    due("how many", h.coalition(0, 3), 3);
    h.line(3, 30);
    due("1 and 3, 2 not strictly between", h.coalition(0, 0), 10);
    due("span", h.coalition(0, 1), 10);
    due("WEIGHT", h.coalition(0, 2), 6);
    due("how many", h.coalition(0, 3), 5);
    h.shift(1, 0, 0, -1, 0);
    due("2 and 3 at one place", h.coalition(0, 0), 12);
    h.line(3, 40);
    due("how many", h.coalition(0, 3), 2);
    rule(h, 0, "has 0 and has 2;");
    due("the bloc between has no members", h.coalition(0, 0), 5);
    due("what 4", h.coalition(0, 4), -1);
    due("what -1", h.coalition(0, -1), -1);
    due("no such rule", h.coalition(4, 0), -1);
    due("no such rule", h.coalition(4, 3), -1);
    due("an empty rule", h.coalition(1, 0), -1);
    due("an empty rule", h.coalition(1, 1), -1);
    due("an empty rule", h.coalition(1, 2), -1);
    due("an empty rule", h.coalition(1, 3), 0);
    DivisionHall like = hall(2, 2, 2);
    rule(like, 0, "heads>0;");
    due("of like ones the least set", like.coalition(0, 0), 1);
    rule(like, 0, "heads<1;");
    due("the empty set is none", like.coalition(0, 3), 0);
    due("the empty set is none", like.coalition(0, 0), -1);
  }

  private static void deals() {
    DivisionHall h = hall(3, 2, 0);
    promise = "promise 26";
    int[][] bad = {{-1, 0, 0}, {8, 0, 0}, {0, -1, 0}, {0, 6, 0}, {0, 0, -1}, {0, 0, 100}};
    for (int[] b : bad) due("a wrong value", h.value(b[0], b[1], b[2]), false);
    int[][] values = {{0, 0, 9}, {1, 0, 8}, {1, 1, 8}, {2, 0, 1}, {2, 1, 7}};
    for (int[] v : values) due("value", h.value(v[0], v[1], v[2]), true);
    due("what a post is worth", h.deal(1, 1, 0, false, 10), 9);
    due("value", h.value(0, 0, 99), true);
    due("what a post is worth", h.deal(1, 1, 0, false, 10), 99);
    due("value", h.value(0, 0, 9), true);
    promise = "promise 27";
    int[][] plain = {{0, 0}, {1, 1}, {2, 0}, {3, -1}, {8, -1}, {9, -1}, {10, 10}, {11, 8}, {12, -1}, {16, -1}, {19, -1}, {20, 0}, {21, 1}, {22, 0}, {23, -1}, {28, -1}, {-1, -1}};
    for (int[] d : plain) due("plain " + d[0], h.deal(3, 7, 0, false, d[0]), d[1]);
    int[][] sight = {{0, 0}, {1, 0}, {2, 1}, {3, -1}, {10, 17}, {11, 7}, {12, -1}, {20, 0}, {21, 1}, {22, 0}, {23, -1}};
    for (int[] d : sight) due("with sight " + d[0], h.deal(3, 7, 0, true, d[0]), d[1]);
    int[] byOne = {0, 1, 0, 0, 1, 0, 1, 0};
    int[] byTwo = {0, 1, 0, 1, 0, 0, 1, 0};
    for (int i = 0; i < 8; i++) {
      due("way 0, choice " + i, h.deal(3, 255, 0, false, 20 + i), byOne[i]);
      due("way 1, choice " + i, h.deal(3, 255, 1, true, 20 + i), byTwo[i]);
    }
    due("no posts", h.deal(3, 0, 0, false, 10), 0);
    due("no posts", h.deal(3, 0, 0, true, 11), 0);
    due("no posts", h.deal(3, 0, 0, true, 12), -1);
    due("no posts", h.deal(3, 0, 0, true, 20), -1);
    due("no posts", h.deal(3, 0, 0, true, 0), -1);
    due("no weight", h.deal(4, 1, 0, false, 0), -1);
    due("no weight", h.deal(7, 1, 0, false, 0), -1);
    due("no members", h.deal(9, 1, 0, false, 0), -1);
    due("empty", h.deal(0, 1, 0, false, 0), -1);
    due("no such blocs", h.deal(64, 1, 0, false, 0), -1);
    due("no such blocs", h.deal(-1, 1, 0, false, 0), -1);
    due("no such posts", h.deal(1, 256, 0, false, 0), -1);
    due("no such posts", h.deal(1, -1, 0, false, 0), -1);
    due("no such way", h.deal(1, 1, 2, false, 0), -1);
    due("no such way", h.deal(1, 1, -1, false, 0), -1);
    DivisionHall ways = hall(6, 3, 2);
    int[] halves = {0, 0, 1, 0, 2, 0, 1, 0};
    int[] odds = {0, 1, 0, 2, 0, 1, 0, 0};
    for (int i = 0; i < 8; i++) {
      due("by 1, 2, 3: " + i, ways.deal(7, 255, 0, false, 20 + i), halves[i]);
      due("by 1, 3, 5: " + i, ways.deal(7, 255, 1, false, 20 + i), odds[i]);
    }
    for (int p = 0; p < 8; p++) due("of like ones the least post", ways.deal(1, 1 << p | 128, 0, p % 2 == 0, p), 0);
    due("the first of like ones", ways.deal(6, 129, 0, false, 0), 1);
    due("the first of like ones", ways.deal(6, 129, 0, true, 7), 2);
    DivisionHall alike = hall(5, 5);
    due("of like weights the least bloc", alike.deal(3, 3, 0, false, 20), 0);
    due("of like weights the least bloc", alike.deal(3, 3, 0, false, 21), 1);
    DivisionHall together = hall(1, 2, 3, 4, 5, 6, 7);
    due("two members of bloc 0", together.deal(33, 1, 0, false, 20), 0);
  }

  public static void main(String[] args) {
    promise = "promise 1";
    newObject();
    promise = "promise 2";
    member();
    promise = "promise 3";
    shift();
    promise = "promise 4";
    view();
    promise = "promise 5";
    of();
    promise = "promise 6";
    look();
    feedAndEnd();
    promise = "promise 9";
    rule();
    grammar();
    promise = "promise 10";
    faults();
    promise = "promise 11";
    carries();
    leasts();
    promise = "promise 14";
    power();
    promise = "promise 15";
    odd();
    promise = "promise 16";
    worth();
    promise = "promise 17";
    trade();
    promise = "promise 18";
    days();
    promise = "promise 19";
    wish();
    promise = "promise 20";
    support();
    promise = "promise 21";
    agenda();
    promise = "promise 22";
    through();
    promise = "promise 23";
    best();
    coalitions();
    deals();
    System.out.println(wrong == 0 ? "PromiseTest: all answers are as due" : "PromiseTest: " + wrong + " answers are not as due");
    if (wrong != 0) System.exit(1);
  }
}
