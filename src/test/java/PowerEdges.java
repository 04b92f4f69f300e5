import static java.lang.Integer.MAX_VALUE;
import static java.lang.Integer.MIN_VALUE;

import java.util.List;

/** The edges of least sets, swings, turns, worths and trades: part 3 of the terms, promises 12 to 17. */
final class PowerEdges {
  private static final int[] NO_RULE = {-1, 4, MIN_VALUE, MAX_VALUE};

  private PowerEdges() {}

  static void tell(Sentences s) {
    s.test("Terms 3", "LEAST sets: those that CARRY, and no set within one does (itself left out).", PowerEdges::noneWithin);
    s.test("Terms 3", "STOPPING is a set, if the others that are IN do not CARRY", PowerEdges::othersThatAreIn);
    s.test("Terms 3", "LEAST ones likewise", PowerEdges::leastStopping);
    s.test("Terms 3", "SWINGS of a MEMBER that is IN: the sets without it that do not CARRY, but do with it.", PowerEdges::fromNoSwingToAll);
    s.test("Terms 3", "TURNS: of all orders of MEMBERS that are IN those in which, as it comes, those ahead of it do not CARRY, but do with it.", PowerEdges::firstAndLastTurn);
    s.test("Terms 3", "ODD: the least set that CARRIES, but does not with one MEMBER more that is IN; the least such MEMBER.", PowerEdges::leastOdd);
    s.test("Terms 3", "A MEMBER i is WORTH no less than j: each set without both that CARRIES with j CARRIES with i.", PowerEdges::setsWithoutBoth);
    s.test("Terms 3", "A TRADE: sets A below B (as numbers) that CARRY, and C below D that do not", PowerEdges::belowOneAnother);
    s.test("Terms 3", "each MEMBER in as many of A, B as of C, D.", PowerEdges::asManyOfEach);
    s.test("Terms 3", "The FIRST: the least A, then B, then C.", PowerEdges::firstTrade);

    s.test("Promise 12: leasts", "LEAST sets (what 0), LEAST STOPPING ones (1): how many", PowerEdges::noneToAllLeasts);
    s.test("Promise 12: leasts", "NONE if one can't be, or another what.", PowerEdges::leastsThatCannotBe);
    s.test("Promise 13: least", "The i-th of these by numbers", PowerEdges::firstAndLastLeast);
    s.test("Promise 13: least", "NONE if there is none such.", PowerEdges::leastNoneSuch);
    s.test("Promise 14: power", "Of MEMBER m what 0 SWINGS, 1, 2 SWINGS by all sets without it, as a fraction", PowerEdges::swingsAsFraction);
    s.test("Promise 14: power", "3, 4 TURNS by all orders likewise (without a common part)", PowerEdges::turnsAsFraction);
    s.test("Promise 14: power", "NONE if it is not IN, one can't be, or another what.", PowerEdges::powerThatCannotBe);
    s.test("Promise 15: odd", "ODD: what 0 the set, 1 the MEMBER.", PowerEdges::oddSetAndMember);
    s.test("Promise 15: odd", "NONE if there is none, one can't be, or another what.", PowerEdges::oddThatCannotBe);
    s.test("Promise 16: worth", "1 if i is WORTH no less than j, 2 if j is no less than i, 3 if both, 0 if neither", PowerEdges::oneOrBothOrNeither);
    s.test("Promise 16: worth", "NONE if one can't be (not IN, the same).", PowerEdges::worthThatCannotBe);
    s.test("Promise 17: trade", "The FIRST TRADE: what 0 A, 1 B, 2 C, 3 D.", PowerEdges::fourSides);
    s.test("Promise 17: trade", "NONE if there is none, one can't be, or another what.", PowerEdges::tradeThatCannotBe);
  }

  /** All least sets, as in "3 5 9": from the first to the one behind the last, which is none. */
  private static void leasts(Sentences s, Hall h, int r, int what, int... due) {
    String name = (what == 0 ? "least set " : "least stopping set ") + "of rule " + r + " ";
    s.due(name + "in all", h.leasts(r, what), due.length);
    for (int i = 0; i < due.length; i++) s.due(name + i, h.least(r, what, i), due[i]);
    s.due(name + "behind the last", h.least(r, what, due.length), -1);
  }

  private static void power(Sentences s, Hall h, int r, int m, long... due) {
    for (int what = 0; what < due.length; what++) s.due("power(" + r + ", " + m + ", " + what + ")", h.power(r, m, what), due[what]);
  }

  private static void trade(Sentences s, Hall h, int r, int... due) {
    for (int what = 0; what < 4; what++) s.due("trade(" + r + ", " + what + ")", h.trade(r, what), due[what]);
  }

  private static void noTrade(Sentences s, Hall h, int r) { trade(s, h, r, -1, -1, -1, -1); }

  private static void noneWithin(Sentences s) {
    Hall h = Hall.weighing(3, 2, 1, 1).tell(0, "weight>3;").tell(1, "heads=1 and has 0 or heads=3;").tell(2, "heads=0 or heads=2;").tell(3, "heads=4;");
    leasts(s, h, 0, 0, 3, 5, 9, 14);
    leasts(s, h, 1, 0, 1, 14);
    leasts(s, h, 2, 0, 0);
    leasts(s, h, 3, 0, 15);
    h.shift(1, 0, 0, -1, 0);
    leasts(s, h, 0, 0, 5, 9);
    leasts(s, h, 1, 0, 1);
    leasts(s, h, 3, 0);
  }

  private static void othersThatAreIn(Sentences s) {
    Hall h = Hall.weighing(1, 1, 1).tell(0, "heads=0;").tell(1, "heads=3;").tell(2, "1=1;").tell(3, "has 0;");
    leasts(s, h, 0, 1, 0);
    leasts(s, h, 1, 1, 1, 2, 4);
    leasts(s, h, 2, 1);
    leasts(s, h, 3, 1, 1);
    h.shift(2, 0, 0, -1, 0);
    leasts(s, h, 1, 1, 0);
    leasts(s, h, 3, 1, 1);
    h.shift(0, 0, 0, -1, 0);
    leasts(s, h, 3, 1, 0);
    h.shift(1, 0, 0, -1, 0);
    leasts(s, h, 0, 1);
    leasts(s, h, 1, 1, 0);
  }

  private static void leastStopping(Sentences s) {
    Hall h = Hall.weighing(1, 1, 1, 1).tell(0, "has 0 and has 1 or has 2 and has 3;").tell(1, "not heads=3 and not heads=1;").tell(2, "heads>0;").tell(3, "heads=2;");
    leasts(s, h, 0, 1, 5, 6, 9, 10);
    leasts(s, h, 1, 1, 1, 2, 4, 8);
    leasts(s, h, 2, 1, 15);
    leasts(s, h, 3, 1, 0);
  }

  private static void fromNoSwingToAll(Sentences s) {
    Hall h = Hall.weighing(1, 1, 1).tell(0, "has 0;").tell(1, "heads=3;").tell(2, "heads=1;").tell(3, "not has 0;");
    power(s, h, 0, 0, 4);
    power(s, h, 0, 1, 0);
    power(s, h, 1, 2, 1);
    power(s, h, 2, 0, 1);
    power(s, h, 3, 0, 0);
    power(s, h, 3, 1, 0);
    Hall one = Hall.weighing(1).tell(0, "has 0;").tell(1, "1=1;");
    power(s, one, 0, 0, 1);
    power(s, one, 1, 0, 0);
    power(s, Hall.ten().tell(0, "has 9;"), 0, 9, 512);
  }

  private static void firstAndLastTurn(Sentences s) {
    Hall h = Hall.weighing(1, 1, 1).tell(0, "heads>0;").tell(1, "heads=3;").tell(2, "has 2;").tell(3, "heads=1 or heads=3;");
    for (int r = 0; r < 2; r++) for (int m = 0; m < 3; m++) {
      s.due("turns", h.power(r, m, 3), 1);
      s.due("of orders", h.power(r, m, 4), 3);
    }
    s.due("all turns", h.power(2, 2, 3), 1);
    s.due("all turns", h.power(2, 2, 4), 1);
    s.due("no turns", h.power(2, 0, 3), 0);
    s.due("no turns", h.power(2, 0, 4), 1);
    s.due("the first and the last", h.power(3, 1, 3), 2);
    s.due("the first and the last", h.power(3, 1, 4), 3);
    h.member();
    s.due("one that is out is in no order", h.power(0, 0, 4), 3);
    h.shift(2, 0, 0, -1, 0);
    s.due("one that is out is in no order", h.power(0, 0, 4), 2);
  }

  private static void leastOdd(Sentences s) {
    Hall h = Hall.weighing(1, 1, 1, 1).tell(0, "heads=0;").tell(1, "heads=3;").tell(2, "has 1 and not has 3 or has 2;").tell(3, "not heads=4;");
    int[][] due = {{0, 0}, {7, 3}, {2, 3}, {7, 3}};
    for (int r = 0; r < 4; r++) for (int what = 0; what < 2; what++) s.due("odd(" + r + ", " + what + ")", h.odd(r, what), due[r][what]);
    h.shift(3, 0, 0, -1, 0);
    for (int r = 1; r < 4; r++) s.due("without member 3: odd(" + r + ", 0)", h.odd(r, 0), -1);
    h.shift(0, 0, 0, -1, 0);
    s.due("the least member that is in", h.odd(0, 1), 1);
  }

  private static void setsWithoutBoth(Sentences s) {
    Hall h = Hall.weighing(1, 1).tell(0, "has 0;").tell(1, "heads>0;").tell(2, "heads=2;").tell(3, "has 0 and has 1 or has 0 and has 2 and has 3;");
    s.due("the empty set alone", h.worth(0, 0, 1), 1);
    s.due("the empty set alone", h.worth(0, 1, 0), 2);
    s.due("the empty set alone", h.worth(1, 0, 1), 3);
    s.due("both together do not count", h.worth(2, 0, 1), 3);
    h.tell(2, "heads=1;");
    s.due("both together do not count", h.worth(2, 0, 1), 3);
    h.tell(2, "heads=0 or has 0 and heads=1;");
    s.due("nor does neither of them", h.worth(2, 0, 1), 1);
    h.member();
    h.member();
    h.shift(2, 0, 1, 0, 0);
    s.due("one that is out is in no set", h.worth(3, 1, 2), 1);
    h.shift(3, 0, 1, 0, 0);
    s.due("the full set of the others", h.worth(3, 1, 2), 1);
    s.due("the full set of the others", h.worth(3, 2, 3), 3);
  }

  private static void belowOneAnother(Sentences s) {
    Hall h = Hall.weighing(1, 1).tell(0, "heads=1;").tell(1, "not heads=1;").tell(2, "heads=0;").tell(3, "not heads=0;");
    trade(s, h, 0, 1, 2, 0, 3);
    trade(s, h, 1, 0, 3, 1, 2);
    noTrade(s, h, 2);
    noTrade(s, h, 3);
    h.tell(2, "1=1;").tell(3, "1=2;");
    noTrade(s, h, 2);
    noTrade(s, h, 3);
    noTrade(s, Hall.weighing(1).tell(0, "has 0;"), 0);
    noTrade(s, new Hall().tell(0, "1=1;"), 0);
    Hall ten = Hall.ten().tell(0, "has 9 and not has 8 or has 8 and not has 9;");
    trade(s, ten, 0, 256, 512, 0, 768);
  }

  private static void asManyOfEach(Sentences s) {
    Hall h = Hall.weighing(1, 1, 1, 1).tell(0, "has 0 and has 1 or has 2 and has 3;").tell(1, "has 0 and has 1 and has 2 or has 0 and has 3;").tell(2, "heads>1;").tell(3, "heads=2;");
    trade(s, h, 0, 3, 12, 5, 10);
    noTrade(s, h, 1);
    noTrade(s, h, 2);
    trade(s, h, 3, 3, 5, 1, 7);
    h.shift(3, 0, 0, -1, 0);
    noTrade(s, h, 0);
    trade(s, h, 3, 3, 5, 1, 7);
    h.tell(0, "heads=0 or heads=3;").tell(1, "heads=1 or heads=2;").tell(2, "heads=0 or heads=1 or heads=3;");
    trade(s, h, 0, 0, 7, 1, 6);
    trade(s, h, 1, 1, 6, 0, 7);
    trade(s, h, 2, 1, 7, 3, 5);
    trade(s, Hall.weighing(1, 1, 1, 1).tell(0, "has 0 and not has 1 or has 3 and not has 2;"), 0, 5, 10, 0, 15);
  }

  private static void firstTrade(Sentences s) {
    Hall h = Hall.weighing(1, 1, 1, 1, 1, 1).tell(0, "has 0 and has 1 or has 2 and has 3 or has 4 and has 5;").tell(1, "has 2 and has 3 or has 4 and has 5;").tell(2, "heads=5;");
    trade(s, h, 0, 3, 12, 5, 10);
    trade(s, h, 1, 12, 48, 20, 40);
    trade(s, h, 2, 31, 47, 15, 63);
    Hall ten = Hall.ten().tell(0, "has 0 and has 9 or has 1 and has 8;").tell(1, "heads=9;").tell(2, "heads=1;");
    trade(s, ten, 0, 258, 513, 3, 768);
    trade(s, ten, 1, 511, 767, 255, 1023);
    trade(s, ten, 2, 1, 2, 0, 3);
  }

  private static void noneToAllLeasts(Sentences s) {
    Hall h = Hall.ten().tell(0, "heads=5;").tell(1, "heads*2>members;").tell(2, "1=1;");
    s.due("as many as can be", h.leasts(0, 0), 252);
    s.due("least", h.leasts(1, 0), 210);
    s.due("stopping", h.leasts(1, 1), 252);
    s.due("the empty set", h.leasts(2, 0), 1);
    s.due("nothing stops", h.leasts(2, 1), 0);
    s.due("nothing carries", h.leasts(3, 0), 0);
    s.due("the empty set stops", h.leasts(3, 1), 1);
    Hall none = new Hall().tell(0, "1=1;");
    s.due("of nobody", none.leasts(0, 0), 1);
    s.due("of nobody", none.leasts(0, 1), 0);
    s.due("of nobody", none.leasts(1, 0), 0);
    s.due("of nobody", none.leasts(1, 1), 1);
  }

  private static void leastsThatCannotBe(Sentences s) {
    Hall h = Hall.busy();
    List<String> before = h.state();
    for (int r : NO_RULE) for (int what = 0; what < 2; what++) s.due("leasts(" + r + ", " + what + ")", h.leasts(r, what), -1);
    for (int what : new int[] {-1, 2, 3, MIN_VALUE, MAX_VALUE}) {
      s.due("leasts(0, " + what + ")", h.leasts(0, what), -1);
      s.due("of an empty rule: leasts(3, " + what + ")", h.leasts(3, what), -1);
    }
    s.same("leasts()", h.state(), before);
  }

  private static void firstAndLastLeast(Sentences s) {
    Hall h = Hall.ten().tell(0, "heads=5;").tell(1, "heads*2>members;");
    s.due("the first", h.least(0, 0, 0), 31);
    s.due("the second", h.least(0, 0, 1), 47);
    s.due("the last", h.least(0, 0, 251), 992);
    s.due("the last but one", h.least(0, 0, 250), 976);
    s.due("the first stopping", h.least(1, 1, 0), 31);
    s.due("the last stopping", h.least(1, 1, 251), 992);
    s.due("the first of six", h.least(1, 0, 0), 63);
    s.due("the last of six", h.least(1, 0, 209), 1008);
  }

  private static void leastNoneSuch(Sentences s) {
    Hall h = Hall.ten().tell(0, "heads=5;").tell(1, "has 0;");
    for (int i : new int[] {-1, 252, 253, 1024, MIN_VALUE, MAX_VALUE}) s.due("least(0, 0, " + i + ")", h.least(0, 0, i), -1);
    for (int what = 0; what < 2; what++) {
      s.due("the only one", h.least(1, what, 0), 1);
      for (int i : new int[] {-1, 1, 2, MIN_VALUE, MAX_VALUE}) s.due("least(1, " + what + ", " + i + ")", h.least(1, what, i), -1);
    }
    s.due("of an empty rule", h.least(2, 0, 0), -1);
    for (int r : NO_RULE) for (int what = 0; what < 2; what++) s.due("least(" + r + ", " + what + ", 0)", h.least(r, what, 0), -1);
    for (int what : new int[] {-1, 2, MIN_VALUE, MAX_VALUE}) s.due("least(0, " + what + ", 0)", h.least(0, what, 0), -1);
  }

  private static void swingsAsFraction(Sentences s) {
    Hall h = Hall.ten().tell(0, "has 0;").tell(1, "heads*2>members;").tell(2, "heads=10;");
    power(s, h, 0, 0, 512, 1, 1);
    power(s, h, 0, 1, 0, 0, 1);
    power(s, h, 1, 9, 126, 63, 256);
    power(s, h, 2, 5, 1, 1, 512);
    power(s, h, 3, 0, 0, 0, 1);
    Hall one = Hall.weighing(0).tell(0, "has 0;");
    power(s, one, 0, 0, 1, 1, 1);
    power(s, one, 1, 0, 0, 0, 1);
  }

  private static void turnsAsFraction(Sentences s) {
    Hall h = Hall.ten().tell(0, "has 0;").tell(1, "heads=10;").tell(2, "has 0 and has 1 and heads>4;");
    power(s, h, 0, 0, 512, 1, 1, 1, 1);
    power(s, h, 0, 1, 0, 0, 1, 0, 1);
    power(s, h, 1, 5, 1, 1, 512, 1, 10);
    power(s, h, 2, 1, 219, 219, 512, 13, 30);
    power(s, h, 2, 9, 21, 21, 512, 1, 60);
    power(s, h, 3, 0, 0, 0, 1, 0, 1);
    h.tell(3, "has 0 and has 1 and has 2 and not has 3 and not has 4 and not has 5 and not has 6 and not has 7 and not has 8 and not has 9;");
    power(s, h, 3, 2, 1, 1, 512, 1, 360);
    Hall one = Hall.weighing(0).tell(0, "has 0;");
    power(s, one, 0, 0, 1, 1, 1, 1, 1);
    power(s, one, 1, 0, 0, 0, 1, 0, 1);
  }

  private static void powerThatCannotBe(Sentences s) {
    Hall h = Hall.weighing(1, 1, 1).tell(0, "heads>1;");
    h.member();
    h.shift(1, 0, 1, -1, 0);
    for (int what = 0; what < 5; what++) {
      for (int m : new int[] {1, 3, 4, 9, 10, 32, 34, -1, -30, MIN_VALUE, MAX_VALUE}) s.due("power(0, " + m + ", " + what + ")", h.power(0, m, what), -1);
      for (int r : NO_RULE) s.due("power(" + r + ", 0, " + what + ")", h.power(r, 0, what), -1);
    }
    for (int what : new int[] {-1, 5, 6, MIN_VALUE, MAX_VALUE}) s.due("power(0, 0, " + what + ")", h.power(0, 0, what), -1);
    power(s, h, 0, 0, 1, 1, 2, 1, 2);
  }

  private static void oddSetAndMember(Sentences s) {
    Hall h = Hall.ten().tell(0, "heads=9;").tell(1, "heads=0;").tell(2, "has 9 and not has 0;").tell(3, "has 8 and not has 9;");
    int[][] due = {{511, 9}, {0, 0}, {512, 0}, {256, 9}};
    for (int r = 0; r < 4; r++) for (int what = 0; what < 2; what++) s.due("odd(" + r + ", " + what + ")", h.odd(r, what), due[r][what]);
  }

  private static void oddThatCannotBe(Sentences s) {
    Hall h = Hall.weighing(1, 1).tell(0, "heads=1;").tell(1, "heads=2;").tell(2, "1=1;");
    for (int r = 1; r < 4; r++) for (int what = 0; what < 2; what++) s.due("there is none: odd(" + r + ", " + what + ")", h.odd(r, what), -1);
    for (int r : NO_RULE) for (int what = 0; what < 2; what++) s.due("odd(" + r + ", " + what + ")", h.odd(r, what), -1);
    for (int what : new int[] {-1, 2, 3, MIN_VALUE, MAX_VALUE}) s.due("odd(0, " + what + ")", h.odd(0, what), -1);
    Hall none = new Hall().tell(0, "heads=0;");
    s.due("no member more that is in", none.odd(0, 0), -1);
    none.member();
    s.due("no member more that is in", none.odd(0, 1), -1);
    none.shift(0, 0, 0, 0, 0);
    s.due("one member more", none.odd(0, 0), 0);
    s.due("one member more", none.odd(0, 1), 0);
  }

  private static void oneOrBothOrNeither(Sentences s) {
    Hall h = Hall.weighing(3, 2, 1, 2).tell(0, "weight>4;").tell(1, "has 0 and has 1 or has 2 and has 3;").tell(2, "1=1;");
    int[][] due = {{0, 0, 2, 1}, {0, 2, 0, 2}, {0, 1, 3, 3}, {1, 0, 2, 0}, {1, 2, 3, 3}, {2, 0, 1, 3}, {3, 0, 3, 3}};
    for (int[] d : due) s.due("worth(" + d[0] + ", " + d[1] + ", " + d[2] + ")", h.worth(d[0], d[1], d[2]), d[3]);
    Hall ten = Hall.ten().tell(0, "has 9;").tell(1, "has 0;");
    s.due("the last and the first", ten.worth(0, 9, 0), 1);
    s.due("the last and the first", ten.worth(1, 9, 0), 2);
    s.due("two without power", ten.worth(1, 8, 9), 3);
  }

  private static void worthThatCannotBe(Sentences s) {
    Hall h = Hall.weighing(1, 1, 1).tell(0, "heads>1;");
    h.member();
    h.shift(1, 0, 1, -1, 0);
    for (int m : new int[] {1, 3, 4, 9, 10, 32, 34, -1, -30, MIN_VALUE, MAX_VALUE}) {
      s.due("worth(0, 0, " + m + ")", h.worth(0, 0, m), -1);
      s.due("worth(0, " + m + ", 0)", h.worth(0, m, 0), -1);
      s.due("worth(0, " + m + ", " + m + ")", h.worth(0, m, m), -1);
    }
    for (int m : new int[] {0, 2}) s.due("the same", h.worth(0, m, m), -1);
    for (int r : NO_RULE) s.due("worth(" + r + ", 0, 2)", h.worth(r, 0, 2), -1);
    s.due("worth(0, 0, 2)", h.worth(0, 0, 2), 3);
  }

  private static void fourSides(Sentences s) {
    Hall h = Hall.ten().tell(0, "has 6 and has 7 or has 8 and has 9;").tell(1, "has 0 and has 1 or has 2 and has 3;");
    trade(s, h, 0, 192, 768, 320, 640);
    trade(s, h, 1, 3, 12, 5, 10);
    trade(s, h, 0, 192, 768, 320, 640);
    h.tell(0, "heads=1;");
    trade(s, h, 0, 1, 2, 0, 3);
    h.shift(0, 0, 0, -1, 0);
    trade(s, h, 0, 2, 4, 0, 6);
  }

  private static void tradeThatCannotBe(Sentences s) {
    Hall h = Hall.weighing(1, 1, 1, 1).tell(0, "has 0 and has 1 or has 2 and has 3;").tell(1, "heads>2;");
    noTrade(s, h, 1);
    noTrade(s, h, 2);
    for (int r : NO_RULE) noTrade(s, h, r);
    for (int what : new int[] {-1, 4, 5, MIN_VALUE, MAX_VALUE}) s.due("trade(0, " + what + ")", h.trade(0, what), -1);
    trade(s, h, 0, 3, 12, 5, 10);
    Hall ten = Hall.weighing(1, 2, 3, 4, 5, 6, 7, 8, 9, 10).tell(0, "weight*2>all;");
    noTrade(s, ten, 0);
  }
}
