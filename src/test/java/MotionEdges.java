import static java.lang.Integer.MAX_VALUE;
import static java.lang.Integer.MIN_VALUE;

import java.util.List;

/** The edges of wishes, agendas and motions: part 4 of the terms, promises 19 to 23. */
final class MotionEdges {
  private static final int[] NO_RULE = {-1, 4, MIN_VALUE, MAX_VALUE};
  private static final int[] NO_MOTION = {-1, 6, 7, 9, 31, 32, 33, MIN_VALUE, MAX_VALUE};
  private static final int[] NO_MOTIONS = {64, 65, 127, -1, MIN_VALUE, MAX_VALUE};

  private MotionEdges() {}

  static void tell(Sentences s) {
    s.test("Terms 4", "MOTIONS 0 .. 5.", MotionEdges::numbersOfMotions);
    s.test("Terms 4", "Each MEMBER may have a WISH: an order of all six, the best first.", MotionEdges::withAndWithoutWish);
    s.test("Terms 4", "A set is FOR a over b: MEMBERS that are IN and WISH a ahead of b.", MotionEdges::thoseForOneOverAnother);
    s.test("Terms 4", "By a RULE b BEATS a, if those FOR b over a CARRY.", MotionEdges::nobodyOrAllFor);
    s.test("Terms 4", "An AGENDA is a row of unlike MOTIONS: the first one stands", MotionEdges::firstOneStands);
    s.test("Terms 4", "each next one is put against what stands: it comes in its place, if it BEATS it.", MotionEdges::nextOneBeats);
    s.test("Terms 4", "SINCERE: by what they are.", MotionEdges::sincere);
    s.test("Terms 4", "With SIGHT: what each leads to (by the rest of the AGENDA, with SIGHT)", MotionEdges::shortestAndLongestSight);
    s.test("Terms 4", "is asked in place of them: the new one comes in its place, if what it leads to BEATS what the other leads to", MotionEdges::whatTheyLeadTo);
    s.test("Terms 4", "(not if both lead to one)", MotionEdges::bothLeadToOne);
    s.test("Terms 4", "THROUGH: of all orders of a set of MOTIONS, as AGENDAS, those in which a MOTION stands in the end; the first one by words.", MotionEdges::allOrders);
    s.test("Terms 4", "BEST of a set: the MOTION that BEATS all others of it, if there is one.", MotionEdges::beatsAllOthers);

    s.test("Promise 19: wish", "MEMBER m's WISH is the order that the digits of a number of six figures tell (0 .. 5, each once; a leading 0 may lack)", MotionEdges::sixFigures);
    s.test("Promise 19: wish", "-1: none any more.", MotionEdges::noWishAnyMore);
    s.test("Promise 19: wish", "True; false, and nothing is done, if one can't be.", MotionEdges::wishThatCannotBe);
    s.test("Promise 20: support", "Those FOR a over b, as a set", MotionEdges::noneToAllFor);
    s.test("Promise 20: support", "NONE if one can't be (the same).", MotionEdges::supportThatCannotBe);
    s.test("Promise 21: agenda", "What stands in the end by an AGENDA", MotionEdges::standsInTheEnd);
    s.test("Promise 21: agenda", "with SIGHT or not.", MotionEdges::withSightOrNot);
    s.test("Promise 21: agenda", "(its MOTIONS' digits, the first one highest, behind a leading 9: 9 and 1 to 6 figures)", MotionEdges::oneToSixFigures);
    s.test("Promise 21: agenda", "NONE if one can't be.", MotionEdges::agendaThatCannotBe);
    s.test("Promise 22: through", "What 0 how many orders bring MOTION x of a set THROUGH, 1 the first one (as for agenda()).", MotionEdges::noneToAllOrders);
    s.test("Promise 22: through", "NONE if one can't be (x not of the set)", MotionEdges::throughThatCannotBe);
    s.test("Promise 22: through", "there is none (for 1)", MotionEdges::noOrderBringsItThrough);
    s.test("Promise 22: through", "or another what.", MotionEdges::throughAnotherWhat);
    s.test("Promise 23: best", "BEST of a set of MOTIONS", MotionEdges::bestOfOneAndOfAll);
    s.test("Promise 23: best", "NONE if there is none, or one can't be (the empty set).", MotionEdges::bestThatCannotBe);
  }

  /** Rule 0 is empty; rule 1: most of those in; rule 2: nobody, so that what nobody is against comes. */
  private static Hall voters(int... wishes) {
    Hall h = new Hall();
    for (int m = 0; m < wishes.length; m++) {
      h.member();
      h.shift(m, 0, 1, 0, 0);
      h.wish(m, wishes[m]);
    }
    return h.tell(1, "heads*2>members;").tell(2, "heads=0;");
  }

  /** Three members whose wishes go round over 0, 1 and 2. */
  private static Hall round() { return voters(12345, 120345, 201345); }

  private static void numbersOfMotions(Sentences s) {
    Hall h = voters(543210);
    for (int x = 0; x < 6; x++) {
      s.due("support(" + x + ", ..)", h.support(x, x == 0 ? 1 : 0), x == 0 ? 0 : 1);
      s.due("agenda(0, 9" + x + ", false)", h.agenda(0, 90 + x, false), x);
      s.due("through(0, " + (1 << x) + ", " + x + ", ..)", h.through(0, 1 << x, x, true, 0), 1);
      s.due("best(0, " + (1 << x) + ")", h.best(0, 1 << x), x);
    }
    for (int x : NO_MOTION) {
      s.due("support(" + x + ", 0)", h.support(x, 0), -1);
      s.due("support(0, " + x + ")", h.support(0, x), -1);
      s.due("through(0, 63, " + x + ", ..)", h.through(0, 63, x, false, 0), -1);
    }
    for (int digits : new int[] {96, 97, 98, 99, 906, 960}) s.due("agenda(0, " + digits + ", false)", h.agenda(0, digits, false), -1);
    s.due("wish of a motion 6", h.wish(0, 123456), false);
  }

  private static void withAndWithoutWish(Sentences s) {
    Hall h = voters(543210, 12345);
    h.member();
    h.shift(2, 0, 1, 0, 0);
    s.due("the best over the last", h.support(5, 0), 1);
    s.due("the last over the best", h.support(0, 5), 2);
    for (int x = 0; x < 5; x++) {
      s.due("one that stands next", h.support(x + 1, x), 1);
      s.due("one that stands next", h.support(x, x + 1), 2);
    }
    s.due("without a wish: the first motion", h.of(2, 2), -1);
    s.due("five of six", h.wish(0, 1234), false);
    h.wish(0, -1);
    s.due("no wish, for neither", h.support(5, 0), 0);
    s.due("no wish, for neither", h.support(0, 5), 2);
  }

  private static void thoseForOneOverAnother(Sentences s) {
    Hall h = voters(12345, 12345, 543210);
    s.due("in", h.support(0, 5), 3);
    h.shift(1, 5, 1, -1, 0);
    s.due("out on the view's day", h.support(0, 5), 1);
    h.view(4, 999);
    s.due("in on the view's day", h.support(0, 5), 3);
    h.view(999, 999);
    h.member();
    h.wish(3, 12345);
    s.due("one that was never in", h.support(0, 5), 1);
    s.due("the others", h.support(5, 0), 4);
  }

  private static void nobodyOrAllFor(Sentences s) {
    Hall h = voters(12345, 12345, 12345).tell(3, "heads=3;");
    s.due("nobody for 1 over 0, and nobody carries", h.agenda(2, 901, false), 1);
    s.due("all for 0 over 1, and nobody carries", h.agenda(2, 910, false), 1);
    s.due("all for 0 over 1, and all carry", h.agenda(3, 910, false), 0);
    s.due("nobody for 1 over 0, and all carry", h.agenda(3, 901, false), 0);
    Hall none = new Hall().tell(0, "heads=0;");
    s.due("of nobody", none.agenda(0, 901, false), 1);
    s.due("of nobody", none.agenda(0, 910, false), 0);
  }

  private static void firstOneStands(Sentences s) {
    Hall h = round();
    for (int x = 0; x < 6; x++) for (int r = 0; r < 3; r++) {
      s.due("alone", h.agenda(r, 90 + x, false), x);
      s.due("alone, with sight", h.agenda(r, 90 + x, true), x);
    }
    for (int digits : new int[] {900, 911, 9011, 9101, 9010, 9543215, 9012340}) {
      s.due("like motions " + digits, h.agenda(1, digits, false), -1);
      s.due("like motions " + digits, h.agenda(1, digits, true), -1);
    }
    s.due("none comes in its place", h.agenda(0, 9543210, false), 5);
    s.due("none comes in its place", h.agenda(0, 9012345, true), 0);
  }

  private static void nextOneBeats(Sentences s) {
    Hall even = voters(12345, 102345);
    s.due("half are not most", even.agenda(1, 901, false), 0);
    s.due("half are not most", even.agenda(1, 910, false), 1);
    Hall h = round();
    s.due("the last against what stands", h.agenda(1, 9012, false), 2);
    s.due("the last against what stands", h.agenda(1, 9102, false), 2);
    s.due("a better one that comes first stays", h.agenda(1, 9012345, false), 2);
    s.due("each next one comes", h.agenda(1, 95430, false), 0);
  }

  private static void sincere(Sentences s) {
    Hall h = round();
    int[][] due = {{9012, 2}, {9021, 1}, {9102, 2}, {9120, 0}, {9201, 1}, {9210, 0}, {9543210, 0}, {9012345, 2}};
    for (int[] d : due) s.due("agenda(1, " + d[0] + ", false)", h.agenda(1, d[0], false), d[1]);
  }

  private static void shortestAndLongestSight(Sentences s) {
    Hall h = round();
    int[][] due = {{90, 0}, {901, 0}, {910, 0}, {920, 2}, {902, 2}, {9012, 1}, {9021, 0}, {9102, 1}, {9120, 2}, {9201, 0}, {9210, 2}, {9543210, 2}, {9012345, 1}};
    for (int[] d : due) s.due("agenda(1, " + d[0] + ", true)", h.agenda(1, d[0], true), d[1]);
  }

  /** Of the round 0 beats 1, 1 beats 2, and 2 beats 0. */
  private static void whatTheyLeadTo(Sentences s) {
    Hall h = round();
    s.due("1 does not beat 0; but it leads to 1, which beats 2, to which 0 leads", h.agenda(1, 9012, true), 1);
    s.due("2 beats 0; but it leads to 1, which does not beat 0, to which 0 leads", h.agenda(1, 9021, true), 0);
    s.due("2 does not beat 1; but it leads to 2, which beats 0, to which 1 leads", h.agenda(1, 9120, true), 2);
    s.due("0 beats 1; but it leads to 2, which does not beat 1, to which 1 leads", h.agenda(1, 9102, true), 1);
    s.due("one more ahead that leads to 1 as 1 does", h.agenda(1, 93012, true), 1);
    s.due("one more behind that leads to nothing", h.agenda(1, 90123, true), 1);
  }

  private static void bothLeadToOne(Sentences s) {
    Hall h = new Hall().tell(0, "heads=0;");
    h.member();
    h.shift(0, 0, 1, 0, 0);
    for (int[] d : new int[][] {{901, 1}, {910, 0}, {9012, 2}, {9543210, 0}, {9012345, 5}}) s.due("all lead to the last: " + d[0], h.agenda(0, d[0], true), d[1]);
    Hall one = voters(12345);
    for (int[] d : new int[][] {{9543210, 0}, {9543201, 0}, {9012345, 0}, {9543, 3}, {9345, 3}}) s.due("all lead to the best: " + d[0], one.agenda(1, d[0], true), d[1]);
  }

  private static void allOrders(Sentences s) {
    Hall h = round();
    for (int x = 0; x < 3; x++) {
      s.due("of six orders", h.through(1, 7, x, false, 0), 2);
      s.due("of six orders, with sight", h.through(1, 7, x, true, 0), 2);
    }
    int[] first = {9120, 9021, 9012};
    int[] sight = {9021, 9012, 9120};
    for (int x = 0; x < 3; x++) {
      s.due("the first one by words for " + x, h.through(1, 7, x, false, 1), first[x]);
      s.due("the first one by words for " + x + ", with sight", h.through(1, 7, x, true, 1), sight[x]);
    }
    int[] whole = {0, 0};
    for (int x = 0; x < 6; x++) {
      whole[0] += h.through(1, 63, x, false, 0);
      whole[1] += h.through(1, 63, x, true, 0);
    }
    s.due("all orders of six", whole[0], 720);
    s.due("all orders of six, with sight", whole[1], 720);
  }

  private static void beatsAllOthers(Sentences s) {
    Hall h = round();
    s.due("round", h.best(1, 7), -1);
    s.due("two of them", h.best(1, 3), 0);
    s.due("two of them", h.best(1, 5), 2);
    s.due("the last ones", h.best(1, 56), 3);
    s.due("round, and others", h.best(1, 63), -1);
    Hall even = voters(12345, 102345);
    s.due("half are not most", even.best(1, 3), -1);
    s.due("half are not most", even.best(1, 7), -1);
    s.due("all but those", even.best(1, 62), 1);
  }

  private static void sixFigures(Sentences s) {
    Hall h = Hall.weighing(1);
    int[][] good = {{12345, 0}, {54321, 0}, {543210, 5}, {501234, 5}, {102345, 1}};
    for (int[] g : good) {
      s.due("wish(0, " + g[0] + ")", h.wish(0, g[0]), true);
      s.due("its first motion", h.of(0, 2), g[1]);
    }
    int[] bad = {0, 1, 5, 1234, 2345, 12344, 112345, 543211, 555555, 543216, 643210, 654321, 123456, 543219, 1012345, 1543210, 5432100, 5432101, 9012345, 9543210, 10012345, -2, -12345, -543210,
      999999, 1000000, MIN_VALUE, MAX_VALUE};
    for (int order : bad) {
      s.due("wish(0, " + order + ")", h.wish(0, order), false);
      s.due("the wish stays", h.of(0, 2), 1);
    }
    s.due("the wish stays", h.support(0, 2), 1);
    s.due("the wish stays", h.support(4, 5), 1);
  }

  private static void noWishAnyMore(Sentences s) {
    Hall h = voters(12345, 12345);
    s.due("wish(0, -1)", h.wish(0, -1), true);
    s.due("of", h.of(0, 2), -1);
    s.due("support", h.support(0, 5), 2);
    s.due("support", h.support(5, 0), 0);
    s.due("once more", h.wish(0, -1), true);
    s.due("of", h.of(0, 2), -1);
    s.due("a wish again", h.wish(0, 543210), true);
    s.due("support", h.support(5, 0), 1);
    s.due("-2 is no order", h.wish(0, -2), false);
    s.due("of", h.of(0, 2), 5);
  }

  private static void wishThatCannotBe(Sentences s) {
    Hall h = Hall.busy();
    List<String> before = h.state();
    for (int m : new int[] {-1, 8, 9, 10, 32, MIN_VALUE, MAX_VALUE}) {
      s.due("wish(" + m + ", 12345)", h.wish(m, 12345), false);
      s.due("wish(" + m + ", -1)", h.wish(m, -1), false);
    }
    for (int m = 0; m < 8; m++) for (int order : new int[] {1234, 543211, 543216, 1012345, -2}) s.due("wish(" + m + ", " + order + ")", h.wish(m, order), false);
    s.same("wishes that can't be", h.state(), before);
    h.shift(0, 0, 0, -1, 999);
    s.due("of one that is out", h.wish(0, 12345), true);
  }

  private static void noneToAllFor(Sentences s) {
    Hall h = new Hall();
    s.due("of nobody", h.support(0, 1), 0);
    for (int m = 0; m < 10; m++) {
      h.member();
      h.shift(m, 0, 0, 0, 0);
    }
    s.due("without wishes", h.support(0, 1), 0);
    for (int m = 0; m < 10; m++) h.wish(m, 12345);
    s.due("all", h.support(0, 5), 1023);
    s.due("none", h.support(5, 0), 0);
    h.wish(9, 543210);
    s.due("all but the last", h.support(0, 5), 511);
    s.due("the last", h.support(5, 0), 512);
  }

  private static void supportThatCannotBe(Sentences s) {
    Hall h = voters(12345);
    for (int x = 0; x < 6; x++) s.due("the same", h.support(x, x), -1);
    for (int x : NO_MOTION) {
      s.due("support(" + x + ", 5)", h.support(x, 5), -1);
      s.due("support(0, " + x + ")", h.support(0, x), -1);
      s.due("support(" + x + ", " + x + ")", h.support(x, x), -1);
    }
  }

  private static void standsInTheEnd(Sentences s) {
    Hall h = voters(304152);
    int[][] due = {{90, 0}, {925, 5}, {9251, 1}, {92514, 4}, {925140, 0}, {9251403, 3}, {9304152, 3}, {904152, 0}, {94152, 4}, {9152, 1}, {952, 5}, {92, 2}};
    for (int[] d : due) {
      s.due("the best of " + d[0], h.agenda(1, d[0], false), d[1]);
      s.due("the best of " + d[0] + ", with sight", h.agenda(1, d[0], true), d[1]);
    }
  }

  private static void withSightOrNot(Sentences s) {
    Hall h = round();
    for (int[] d : new int[][] {{9012, 2, 1}, {9021, 1, 0}, {9120, 0, 2}, {901, 0, 0}}) {
      s.due("agenda(1, " + d[0] + ", false)", h.agenda(1, d[0], false), d[1]);
      s.due("agenda(1, " + d[0] + ", true)", h.agenda(1, d[0], true), d[2]);
    }
  }

  private static void oneToSixFigures(Sentences s) {
    Hall h = voters(12345);
    int[][] good = {{90, 0, 0}, {95, 5, 5}, {954, 5, 4}, {945, 4, 4}, {9543, 5, 3}, {95432, 5, 2}, {954321, 5, 1}, {9543210, 5, 0}, {9012345, 0, 0}, {9102345, 1, 0}};
    for (int[] g : good) for (boolean sight : new boolean[] {false, true}) {
      s.due("by an empty rule: " + g[0], h.agenda(0, g[0], sight), g[1]);
      s.due("by most: " + g[0], h.agenda(1, g[0], sight), g[2]);
    }
    int[] bad = {9, 0, 5, 12345, 543210, 8012345, 1012345, 19, 190, 80, 89, 99, 990, 95432100, 90123456, 95432106, 90123450, 90000000, 99012345, 912345678, 901234501, 2109012345};
    for (int digits : bad) for (boolean sight : new boolean[] {false, true}) s.due("agenda(1, " + digits + ", ..)", h.agenda(1, digits, sight), -1);
  }

  private static void agendaThatCannotBe(Sentences s) {
    Hall h = Hall.busy();
    List<String> before = h.state();
    for (int r : NO_RULE) s.due("agenda(" + r + ", 9012, ..)", h.agenda(r, 9012, false), -1);
    for (int digits : new int[] {-1, -9, -90, -9012, -9012345, MIN_VALUE, MAX_VALUE, 9, 9001, 96, 9016, 9610}) {
      s.due("agenda(0, " + digits + ", false)", h.agenda(0, digits, false), -1);
      s.due("agenda(0, " + digits + ", true)", h.agenda(0, digits, true), -1);
    }
    s.same("agendas that can't be", h.state(), before);
  }

  private static void noneToAllOrders(Sentences s) {
    Hall h = voters(12345).tell(3, "1=1;");
    for (boolean sight : new boolean[] {false, true}) {
      s.due("one of one", h.through(1, 32, 5, sight, 0), 1);
      s.due("the first of one", h.through(1, 32, 5, sight, 1), 95);
      s.due("all of two", h.through(1, 3, 0, sight, 0), 2);
      s.due("all of six", h.through(1, 63, 0, sight, 0), 720);
      s.due("the first of all", h.through(1, 63, 0, sight, 1), 9012345);
      s.due("none", h.through(1, 63, 1, sight, 0), 0);
      for (int x = 0; x < 6; x++) s.due("the first stands by an empty rule", h.through(0, 63, x, sight, 0), 120);
      s.due("the first one", h.through(0, 63, 5, sight, 1), 9501234);
      s.due("the first one", h.through(0, 63, 3, sight, 1), 9301245);
      for (int x = 0; x < 6; x++) s.due("the last stands if all beat all", h.through(3, 63, x, sight, 0), 120);
      s.due("the first one with 0 last", h.through(3, 63, 0, sight, 1), 9123450);
      s.due("the first one with 5 last", h.through(3, 63, 5, sight, 1), 9012345);
      s.due("as for agenda()", h.agenda(3, h.through(3, 63, 2, sight, 1), sight), 2);
    }
  }

  private static void throughThatCannotBe(Sentences s) {
    Hall h = voters(12345);
    for (int what = 0; what < 2; what++) {
      for (int x = 0; x < 6; x++) s.due("x not of the set", h.through(1, 63 - (1 << x), x, false, what), -1);
      s.due("the empty set", h.through(1, 0, 0, true, what), -1);
      for (int x : NO_MOTION) s.due("through(1, 63, " + x + ", ..)", h.through(1, 63, x, false, what), -1);
      for (int set : NO_MOTIONS) s.due("through(1, " + set + ", 0, ..)", h.through(1, set, 0, false, what), -1);
      for (int r : NO_RULE) s.due("through(" + r + ", 1, 0, ..)", h.through(r, 1, 0, false, what), -1);
    }
  }

  private static void noOrderBringsItThrough(Sentences s) {
    Hall h = voters(12345);
    for (boolean sight : new boolean[] {false, true}) for (int x = 1; x < 6; x++) {
      s.due("how many", h.through(1, 63, x, sight, 0), 0);
      s.due("the first", h.through(1, 63, x, sight, 1), -1);
    }
  }

  private static void throughAnotherWhat(Sentences s) {
    Hall h = voters(12345);
    for (int what : new int[] {-1, 2, 3, MIN_VALUE, MAX_VALUE}) for (boolean sight : new boolean[] {false, true}) s.due("what " + what, h.through(1, 63, 0, sight, what), -1);
  }

  private static void bestOfOneAndOfAll(Sentences s) {
    Hall h = voters(543210);
    for (int x = 0; x < 6; x++) {
      s.due("alone, by an empty rule", h.best(0, 1 << x), x);
      s.due("alone", h.best(1, 1 << x), x);
    }
    s.due("of all", h.best(1, 63), 5);
    s.due("of all but the best", h.best(1, 31), 4);
    s.due("of two", h.best(1, 33), 5);
    h.wish(0, 12345);
    s.due("of all", h.best(1, 63), 0);
  }

  private static void bestThatCannotBe(Sentences s) {
    Hall h = round();
    s.due("none of three", h.best(1, 7), -1);
    s.due("none by an empty rule", h.best(0, 3), -1);
    for (int r = 0; r < 3; r++) s.due("the empty set", h.best(r, 0), -1);
    for (int set : NO_MOTIONS) s.due("best(1, " + set + ")", h.best(1, set), -1);
    for (int r : NO_RULE) for (int set = 0; set < 2; set++) s.due("best(" + r + ", " + set + ")", h.best(r, set), -1);
  }
}
