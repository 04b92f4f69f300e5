import static java.lang.Integer.MAX_VALUE;
import static java.lang.Integer.MIN_VALUE;

import java.util.List;

/** The edges of coalitions, places, posts and values: part 5 of the terms, promises 24 to 27. */
final class BlocEdges {
  private static final int[] NO_RULE = {-1, 4, MIN_VALUE, MAX_VALUE};
  private static final int[] NO_BLOC = {-1, 6, 7, 31, 32, MIN_VALUE, MAX_VALUE};

  private BlocEdges() {}

  static void tell(Sentences s) {
    s.test("Terms 5", "A COALITION is a set of BLOCS; its MEMBERS: all IN of these.", BlocEdges::allInOfThese);
    s.test("Terms 5", "It hangs together on a LINE (each BLOC has a PLACE 0 .. 99; 0 at first)", BlocEdges::placesAtFirstAndAtTheEnds);
    s.test("Terms 5", "if no other BLOC that has MEMBERS IN lies strictly between two PLACES of it.", BlocEdges::strictlyBetween);
    s.test("Terms 5", "BEST by a RULE: of the sets of BLOCS that have MEMBERS IN that CARRY and hang together", BlocEdges::blocsWithMembersIn);
    s.test("Terms 5", "the least from its least to its greatest PLACE; of several the least WEIGHT; then the least set.", BlocEdges::leastSpanWeightSet);
    s.test("Terms 5", "POSTS 0 .. 7 have for each BLOC a VALUE (0 .. 99; 0 at first).", BlocEdges::valuesAtFirstAndAtTheEnds);
    s.test("Terms 5", "DEALT to a COALITION (not empty; all its BLOCS with a WEIGHT above 0)", BlocEdges::weightAboveNothing);
    s.test("Terms 5", "POST by POST a BLOC comes to choose: that with the greatest WEIGHT by (its choices so far and 1), or in WAY 1 by (twice these and 1)", BlocEdges::twoWays);
    s.test("Terms 5", "of like ones that with the greater WEIGHT, then the least.", BlocEdges::likeShares);
    s.test("Terms 5", "Plain: it takes what is of most VALUE to it of those left (of like ones the least)", BlocEdges::likeValues);
    s.test("Terms 5", "(of like ones the least POST)", BlocEdges::likeValuesWithSight);
    s.test("Terms 5", "With SIGHT: what leads to the most VALUE for itself in the end, all others choosing with SIGHT", BlocEdges::mostInTheEnd);
    s.test("Terms 5", "All POSTS of a set are dealt.", BlocEdges::noneToAllPosts);
    s.test("Terms 5", "The constants: `NONE = -1`: None.", t -> t.due("NONE", DivisionHall.NONE, -1));

    s.test("Promise 24: line", "BLOC b has a PLACE: true", BlocEdges::placeAtItsEnds);
    s.test("Promise 24: line", "false, and nothing is done, if one can't be.", BlocEdges::lineThatCannotBe);
    s.test("Promise 25: coalition", "BEST COALITION: what 0 the set, 1 from its least to its greatest PLACE, 2 its WEIGHT, 3 how many CARRY and hang together.", BlocEdges::oneToAllCoalitions);
    s.test("Promise 25: coalition", "NONE if there is none (for 3: 0)", BlocEdges::noCoalition);
    s.test("Promise 25: coalition", "one can't be, or another what.", BlocEdges::coalitionThatCannotBe);
    s.test("Promise 26: value", "POST p is of a VALUE to BLOC b: true", BlocEdges::valueAtItsEnds);
    s.test("Promise 26: value", "false, and nothing is done, if one can't be.", BlocEdges::valueThatCannotBe);
    s.test("Promise 27: deal", "DEALT: what 0 .. 7 the BLOC to which that POST goes", BlocEdges::everyPost);
    s.test("Promise 27: deal", "10 + b what BLOC b has in VALUE", BlocEdges::everyBloc);
    s.test("Promise 27: deal", "20 + i the BLOC that chooses i-th", BlocEdges::everyChoice);
    s.test("Promise 27: deal", "NONE if one can't be", BlocEdges::dealThatCannotBe);
    s.test("Promise 27: deal", "that POST, BLOC, choice is none", BlocEdges::noSuchPostBlocChoice);
    s.test("Promise 27: deal", "or another what.", BlocEdges::dealAnotherWhat);
  }

  private static void coalition(Sentences s, Hall h, int r, int... due) {
    for (int what = 0; what < 4; what++) s.due("coalition(" + r + ", " + what + ")", h.coalition(r, what), due[what]);
  }

  private static void choices(Sentences s, Hall h, int blocs, int posts, int way, int... due) {
    for (int i = 0; i < due.length; i++) {
      s.due("way " + way + ", choice " + i, h.deal(blocs, posts, way, false, 20 + i), due[i]);
      s.due("way " + way + ", choice " + i + ", with sight", h.deal(blocs, posts, way, true, 20 + i), due[i]);
    }
    s.due("behind the last", h.deal(blocs, posts, way, false, 20 + due.length), -1);
  }

  private static void owners(Sentences s, Hall h, int blocs, int posts, boolean sight, int... due) {
    for (int p = 0; p < due.length; p++) s.due("deal(" + blocs + ", " + posts + ", 0, " + sight + ", " + p + ")", h.deal(blocs, posts, 0, sight, p), due[p]);
  }

  private static void values(Hall h, int[][] ofBlocs) {
    for (int b = 0; b < ofBlocs.length; b++) for (int p = 0; p < ofBlocs[b].length; p++) h.value(p, b, ofBlocs[b][p]);
  }

  private static void allInOfThese(Sentences s) {
    Hall h = Hall.weighing(1, 1, 1, 1, 1, 1, 1).tell(0, "has 0 and has 6;");
    coalition(s, h, 0, 1, 0, 2, 32);
    h.shift(6, 0, 1, -1, 0);
    coalition(s, h, 0, -1, -1, -1, 0);
    h.shift(6, 0, 1, 5, 0);
    coalition(s, h, 0, 33, 0, 3, 16);
  }

  private static void placesAtFirstAndAtTheEnds(Sentences s) {
    Hall h = Hall.weighing(1, 1, 1, 1, 1, 1).tell(0, "heads>1;").tell(1, "heads=6;");
    coalition(s, h, 0, 3, 0, 2, 57);
    coalition(s, h, 1, 63, 0, 6, 1);
    s.due("line(5, 99)", h.line(5, 99), true);
    coalition(s, h, 1, 63, 99, 6, 1);
    s.due("line(5, 0)", h.line(5, 0), true);
    coalition(s, h, 1, 63, 0, 6, 1);
    for (int b = 0; b < 6; b++) s.due("line(" + b + ", 99)", h.line(b, 99), true);
    coalition(s, h, 0, 3, 0, 2, 57);
    for (int place : new int[] {-1, 100}) s.due("line(0, " + place + ")", h.line(0, place), false);
    coalition(s, h, 0, 3, 0, 2, 57);
  }

  private static void strictlyBetween(Sentences s) {
    Hall h = Hall.weighing(1, 1, 1).tell(0, "has 0 and has 2 and not has 1;");
    h.line(0, 49);
    h.line(2, 51);
    int[][] due = {{48, 1}, {49, 1}, {50, 0}, {51, 1}, {52, 1}, {0, 1}, {99, 1}};
    for (int[] d : due) {
      h.line(1, d[0]);
      s.due("bloc 1 at " + d[0], h.coalition(0, 3), d[1]);
    }
    h.line(1, 50);
    h.shift(1, 5, 0, 1, 0);
    s.due("members without weight are in", h.coalition(0, 3), 0);
    h.shift(1, 5, 0, -1, 0);
    s.due("a bloc without members in", h.coalition(0, 3), 1);
    h.view(4, 999);
    s.due("with one in", h.coalition(0, 3), 0);
    h.line(0, 51);
    s.due("one place alone", h.coalition(0, 3), 1);
    for (int b = 0; b < 6; b++) {
      Hall six = Hall.weighing(1, 1, 1, 1, 1, 1).tell(0, "heads=5 and not has " + b + ";");
      for (int other = 0; other < 6; other++) six.line(other, other == b ? 50 : other % 2 == 0 ? 49 : 50);
      six.line(b == 5 ? 4 : 5, 51);
      six.line(b == 0 ? 1 : 0, 49);
      s.due("bloc " + b + " between", six.coalition(0, 3), 0);
      six.line(b, 51);
      s.due("bloc " + b + " at the end", six.coalition(0, 3), 1);
    }
    Hall one = Hall.weighing(1, 1).tell(0, "has 0 and not has 1;");
    s.due("a bloc alone", one.coalition(0, 3), 1);
    Hall all = Hall.weighing(1, 1, 1).tell(0, "heads=3;");
    for (int b = 0; b < 3; b++) all.line(b, 40 * b);
    s.due("one of its own is no other", all.coalition(0, 3), 1);
  }

  private static void blocsWithMembersIn(Sentences s) {
    Hall h = new Hall().tell(0, "1=1;").tell(1, "heads=0;");
    coalition(s, h, 0, -1, -1, -1, 0);
    for (int m = 0; m < 6; m++) h.member();
    coalition(s, h, 0, -1, -1, -1, 0);
    h.shift(5, 0, 7, 5, 0);
    coalition(s, h, 0, 32, 0, 7, 1);
    h.shift(0, 0, 0, 0, 0);
    coalition(s, h, 0, 1, 0, 0, 3);
    for (int m = 0; m < 6; m++) h.shift(m, 0, 1, m, 0);
    coalition(s, h, 0, 1, 0, 1, 63);
    coalition(s, h, 1, -1, -1, -1, 0);
    h.shift(0, 0, 0, -1, 0);
    coalition(s, h, 0, 2, 0, 1, 31);
  }

  private static void leastSpanWeightSet(Sentences s) {
    Hall h = Hall.weighing(9, 1, 1).tell(0, "has 0 and not has 1 or heads=2 and not has 0;").tell(1, "heads>0;");
    h.line(1, 10);
    h.line(2, 11);
    coalition(s, h, 0, 1, 0, 9, 2);
    coalition(s, h, 1, 2, 0, 1, 6);
    h.line(2, 10);
    coalition(s, h, 0, 6, 0, 2, 3);
    Hall like = Hall.weighing(5, 3, 3).tell(0, "heads>0;").tell(1, "has 2 and not heads=1 or has 1 and has 0;");
    coalition(s, like, 0, 2, 0, 3, 7);
    like.shift(1, 0, 5, 1, 0);
    like.shift(2, 0, 5, 2, 0);
    coalition(s, like, 0, 1, 0, 5, 7);
    coalition(s, like, 1, 3, 0, 10, 4);
    like.line(0, 1);
    coalition(s, like, 1, 6, 0, 10, 4);
    Hall far = Hall.weighing(1, 1, 1, 1).tell(0, "heads>1;");
    int[] places = {0, 33, 65, 99};
    for (int b = 0; b < 4; b++) far.line(b, places[b]);
    coalition(s, far, 0, 6, 32, 2, 6);
  }

  private static void valuesAtFirstAndAtTheEnds(Sentences s) {
    Hall h = Hall.weighing(1, 1, 1, 1, 1, 1);
    for (int b = 0; b < 6; b++) s.due("at first", h.deal(1 << b, 255, 0, false, 10 + b), 0);
    for (int b = 0; b < 6; b++) for (int p = 0; p < 8; p++) s.due("value(" + p + ", " + b + ", 99)", h.value(p, b, 99), true);
    for (int b = 0; b < 6; b++) s.due("at most", h.deal(1 << b, 255, 0, true, 10 + b), 792);
    for (int v : new int[] {-1, 100}) s.due("value(0, 0, " + v + ")", h.value(0, 0, v), false);
    s.due("value(7, 5, 0)", h.value(7, 5, 0), true);
    s.due("of the others", h.deal(32, 255, 0, false, 15), 693);
    s.due("to the others", h.deal(16, 255, 0, false, 14), 792);
    for (int p : new int[] {-1, 8}) s.due("value(" + p + ", 0, 1)", h.value(p, 0, 1), false);
  }

  private static void weightAboveNothing(Sentences s) {
    Hall h = Hall.weighing(1, 0, 5);
    s.due("a weight of 1", h.deal(1, 1, 0, false, 0), 0);
    s.due("not empty", h.deal(0, 1, 0, false, 0), -1);
    s.due("not empty, no posts", h.deal(0, 0, 0, false, 20), -1);
    s.due("a weight of 0", h.deal(2, 1, 0, false, 0), -1);
    s.due("one with a weight of 0", h.deal(3, 1, 0, false, 0), -1);
    s.due("one with a weight of 0", h.deal(7, 1, 0, true, 10), -1);
    s.due("one without members", h.deal(9, 1, 0, false, 0), -1);
    s.due("one without members", h.deal(32, 1, 0, false, 0), -1);
    s.due("others may have none", h.deal(5, 1, 0, false, 0), 2);
    h.member();
    h.shift(3, 0, 1, 1, 0);
    s.due("a weight by another member", h.deal(3, 3, 0, false, 21), 1);
    h.shift(3, 0, 1, -1, 0);
    s.due("and none by one that is out", h.deal(3, 3, 0, false, 21), -1);
  }

  private static void twoWays(Sentences s) {
    Hall h = Hall.weighing(6, 3, 2);
    choices(s, h, 7, 255, 0, 0, 0, 1, 0, 2, 0, 1, 0);
    choices(s, h, 7, 255, 1, 0, 1, 0, 2, 0, 1, 0, 0);
    Hall far = Hall.weighing(99, 1);
    choices(s, far, 3, 255, 0, 0, 0, 0, 0, 0, 0, 0, 0);
    choices(s, far, 3, 255, 1, 0, 0, 0, 0, 0, 0, 0, 0);
    Hall near = Hall.weighing(8, 1);
    choices(s, near, 3, 255, 0, 0, 0, 0, 0, 0, 0, 0, 0);
    choices(s, near, 3, 255, 1, 0, 0, 0, 0, 1, 0, 0, 0);
    for (int way : new int[] {-1, 2, 3, MIN_VALUE, MAX_VALUE}) s.due("way " + way, h.deal(7, 255, way, false, 20), -1);
  }

  private static void likeShares(Sentences s) {
    Hall h = Hall.weighing(33, 99, 66);
    choices(s, h, 3, 31, 0, 1, 1, 1, 0, 1);
    choices(s, h, 3, 31, 1, 1, 1, 0, 1, 1);
    choices(s, h, 5, 15, 0, 2, 2, 0, 2);
    choices(s, h, 7, 63, 0, 1, 2, 1, 1, 2, 0);
    Hall alike = Hall.weighing(7, 7, 7, 7, 7, 7);
    choices(s, alike, 63, 255, 0, 0, 1, 2, 3, 4, 5, 0, 1);
    choices(s, alike, 63, 255, 1, 0, 1, 2, 3, 4, 5, 0, 1);
    choices(s, alike, 48, 7, 0, 4, 5, 4);
  }

  private static void likeValues(Sentences s) {
    Hall h = Hall.weighing(5, 5);
    owners(s, h, 3, 255, false, 0, 1, 0, 1, 0, 1, 0, 1);
    owners(s, h, 3, 170, false, -1, 0, -1, 1, -1, 0, -1, 1);
    values(h, new int[][] {{1, 9, 9, 1}, {8, 8, 8, 8}});
    owners(s, h, 3, 15, false, 1, 0, 0, 1);
    values(h, new int[][] {{0, 0, 0, 99}, {0, 0, 1, 99}});
    owners(s, h, 3, 15, false, 0, 1, 1, 0);
  }

  private static void likeValuesWithSight(Sentences s) {
    Hall h = Hall.weighing(5, 5);
    owners(s, h, 3, 255, true, 0, 1, 0, 1, 0, 1, 0, 1);
    owners(s, h, 3, 170, true, -1, 0, -1, 1, -1, 0, -1, 1);
    values(h, new int[][] {{5, 5}, {9, 0}});
    owners(s, h, 3, 3, true, 0, 1);
    values(h, new int[][] {{9, 8, 1, 0}, {0, 8, 7, 0}});
    owners(s, h, 3, 7, true, 0, 0, 1);
  }

  private static void mostInTheEnd(Sentences s) {
    Hall h = Hall.weighing(3, 2);
    values(h, new int[][] {{9, 8, 1}, {0, 8, 7}});
    choices(s, h, 3, 7, 0, 0, 1, 0);
    owners(s, h, 3, 7, false, 0, 1, 0);
    owners(s, h, 3, 7, true, 0, 0, 1);
    s.due("plain: 9 and 1", h.deal(3, 7, 0, false, 10), 10);
    s.due("with sight: 8 and 9", h.deal(3, 7, 0, true, 10), 17);
    s.due("the last choice is the same", h.deal(3, 1, 0, true, 10), 9);
    s.due("the last choice is the same", h.deal(3, 4, 0, true, 10), 1);
    Hall full = Hall.weighing(4, 3, 2);
    values(full, new int[][] {{9, 8, 7, 6, 5, 4, 3, 2}, {2, 9, 4, 8, 1, 7, 3, 6}, {7, 1, 9, 2, 8, 3, 6, 4}});
    owners(s, full, 7, 255, false, 0, 1, 0, 1, 2, 0, 0, 1);
    owners(s, full, 7, 255, true, 0, 0, 0, 1, 2, 1, 0, 1);
    int[][] held = {{23, 23, 8}, {20, 22, 15}, {27, 21, 8}, {22, 21, 15}};
    for (int i = 0; i < 4; i++) for (int b = 0; b < 3; b++) s.due("eight posts, bloc " + b, full.deal(7, 255, i % 2, i > 1, 10 + b), held[i][b]);
  }

  private static void noneToAllPosts(Sentences s) {
    Hall h = Hall.weighing(4, 3, 2);
    for (boolean sight : new boolean[] {false, true}) {
      owners(s, h, 7, 0, sight, -1, -1, -1, -1, -1, -1, -1, -1);
      for (int b = 0; b < 3; b++) s.due("nothing to deal", h.deal(7, 0, 0, sight, 10 + b), 0);
      s.due("nobody chooses", h.deal(7, 0, 0, sight, 20), -1);
      owners(s, h, 7, 128, sight, -1, -1, -1, -1, -1, -1, -1, 0);
      owners(s, h, 4, 255, sight, 2, 2, 2, 2, 2, 2, 2, 2);
      int dealt = 0;
      for (int p = 0; p < 8; p++) dealt += h.deal(7, 255, 0, sight, p) >= 0 ? 1 : 0;
      s.due("all are dealt", dealt, 8);
    }
  }

  private static void placeAtItsEnds(Sentences s) {
    Hall h = Hall.weighing(1, 1, 1, 1, 1, 1).tell(0, "heads=6;");
    for (int b = 0; b < 6; b++) {
      s.due("line(" + b + ", 99)", h.line(b, 99), true);
      s.due("span", h.coalition(0, 1), 99);
      s.due("line(" + b + ", 0)", h.line(b, 0), true);
      s.due("span", h.coalition(0, 1), 0);
    }
    s.due("a bloc without members", new Hall().line(5, 99), true);
  }

  private static void lineThatCannotBe(Sentences s) {
    Hall h = Hall.busy();
    List<String> before = h.state();
    for (int b : NO_BLOC) for (int place : new int[] {0, 50, 99}) s.due("line(" + b + ", " + place + ")", h.line(b, place), false);
    for (int b = 0; b < 6; b++) for (int place : new int[] {-1, 100, MIN_VALUE, MAX_VALUE}) s.due("line(" + b + ", " + place + ")", h.line(b, place), false);
    s.same("places that can't be", h.state(), before);
  }

  private static void oneToAllCoalitions(Sentences s) {
    Hall h = Hall.weighing(99, 99, 99, 99, 99, 99).tell(0, "1=1;").tell(1, "heads=6;").tell(2, "has 5 and heads=1;");
    coalition(s, h, 0, 1, 0, 99, 63);
    coalition(s, h, 1, 63, 0, 594, 1);
    coalition(s, h, 2, 32, 0, 99, 1);
    for (int b = 0; b < 6; b++) h.line(b, 99 - 19 * b);
    coalition(s, h, 0, 1, 0, 99, 21);
    coalition(s, h, 1, 63, 95, 594, 1);
    h.tell(3, "heads=2;");
    coalition(s, h, 3, 3, 19, 198, 5);
    h.line(5, 0);
    h.line(0, 99);
    coalition(s, h, 1, 63, 99, 594, 1);
  }

  private static void noCoalition(Sentences s) {
    Hall h = Hall.weighing(1, 1, 1).tell(0, "heads>3;").tell(1, "has 0 and has 2 and not has 1;").tell(2, "heads=0;");
    coalition(s, h, 0, -1, -1, -1, 0);
    coalition(s, h, 3, -1, -1, -1, 0);
    coalition(s, h, 2, -1, -1, -1, 0);
    coalition(s, h, 1, 5, 0, 2, 1);
    h.line(1, 1);
    h.line(2, 2);
    coalition(s, h, 1, -1, -1, -1, 0);
  }

  private static void coalitionThatCannotBe(Sentences s) {
    Hall h = Hall.busy();
    List<String> before = h.state();
    for (int r : NO_RULE) coalition(s, h, r, -1, -1, -1, -1);
    for (int what : new int[] {-1, 4, 5, MIN_VALUE, MAX_VALUE}) for (int r = 0; r < 4; r++) s.due("coalition(" + r + ", " + what + ")", h.coalition(r, what), -1);
    s.same("coalition()", h.state(), before);
  }

  private static void valueAtItsEnds(Sentences s) {
    Hall h = Hall.weighing(1, 1, 1, 1, 1, 1);
    for (int p : new int[] {0, 7}) for (int b : new int[] {0, 5}) for (int v : new int[] {99, 0, 1}) {
      s.due("value(" + p + ", " + b + ", " + v + ")", h.value(p, b, v), true);
      s.due("it has that value", h.deal(1 << b, 1 << p, 0, false, 10 + b), v);
    }
    s.due("others have none", h.deal(1, 126, 0, false, 10), 0);
    s.due("others have none", h.deal(16, 255, 0, false, 14), 0);
    s.due("a bloc without members", new Hall().value(7, 5, 99), true);
  }

  private static void valueThatCannotBe(Sentences s) {
    Hall h = Hall.busy();
    List<String> before = h.state();
    for (int p : new int[] {-1, 8, 9, 32, MIN_VALUE, MAX_VALUE}) for (int b = 0; b < 6; b += 5) s.due("value(" + p + ", " + b + ", 77)", h.value(p, b, 77), false);
    for (int b : NO_BLOC) for (int p = 0; p < 8; p += 7) s.due("value(" + p + ", " + b + ", 77)", h.value(p, b, 77), false);
    for (int v : new int[] {-1, 100, MIN_VALUE, MAX_VALUE}) for (int p = 0; p < 8; p += 7) for (int b = 0; b < 6; b += 5) s.due("value(" + p + ", " + b + ", " + v + ")", h.value(p, b, v), false);
    s.same("values that can't be", h.state(), before);
  }

  private static void everyPost(Sentences s) {
    Hall h = Hall.weighing(4, 3, 2);
    values(h, new int[][] {{0, 1, 2, 3, 4, 5, 6, 7}, {7, 6, 5, 4, 3, 2, 1, 0}, {9, 9, 9, 9, 9, 9, 9, 9}});
    owners(s, h, 7, 255, false, 1, 2, 1, 1, 0, 0, 0, 0);
    owners(s, h, 3, 129, false, 1, -1, -1, -1, -1, -1, -1, 0);
    owners(s, h, 3, 129, true, 1, -1, -1, -1, -1, -1, -1, 0);
  }

  private static void everyBloc(Sentences s) {
    Hall h = Hall.weighing(1, 1, 1, 1, 1, 1);
    for (int b = 0; b < 6; b++) for (int p = 0; p < 8; p++) h.value(p, b, 10 * b + p);
    for (boolean sight : new boolean[] {false, true}) {
      for (int b = 0; b < 6; b++) s.due("it alone", h.deal(1 << b, 255, 0, sight, 10 + b), 80 * b + 28);
      for (int b = 0; b < 6; b++) s.due("one post each", h.deal(63, 63, 0, sight, 10 + b), 10 * b + 5 - b);
    }
    for (int b = 0; b < 6; b++) s.due("one that chooses nothing", h.deal(63, 1, 0, false, 10 + b), 0);
    h.value(0, 5, 99);
    s.due("99 and seven others", h.deal(32, 255, 0, false, 15), 99 + 7 * 50 + 28);
  }

  private static void everyChoice(Sentences s) {
    Hall h = Hall.weighing(1, 1, 1, 1, 1, 1);
    choices(s, h, 63, 255, 0, 0, 1, 2, 3, 4, 5, 0, 1);
    choices(s, h, 63, 1, 0, 0);
    choices(s, h, 63, 128, 1, 0);
    choices(s, h, 63, 0, 0);
    choices(s, h, 32, 255, 1, 5, 5, 5, 5, 5, 5, 5, 5);
  }

  private static void dealThatCannotBe(Sentences s) {
    Hall h = Hall.busy();
    List<String> before = h.state();
    for (int set : new int[] {0, 64, 65, 128, -1, MIN_VALUE, MAX_VALUE}) for (int what : new int[] {0, 10, 20}) s.due("blocs " + set, h.deal(set, 1, 0, false, what), -1);
    for (int set : new int[] {256, 257, 511, -1, MIN_VALUE, MAX_VALUE}) for (int what : new int[] {0, 10, 20}) s.due("posts " + set, h.deal(1, set, 0, true, what), -1);
    for (int way : new int[] {-1, 2, 3, MIN_VALUE, MAX_VALUE}) for (int what : new int[] {0, 10, 20}) s.due("way " + way, h.deal(1, 1, way, true, what), -1);
    s.same("deal()", h.state(), before);
  }

  private static void noSuchPostBlocChoice(Sentences s) {
    Hall h = Hall.weighing(4, 3, 2, 1, 1, 1);
    for (boolean sight : new boolean[] {false, true}) for (int way = 0; way < 2; way++) {
      for (int p = 0; p < 8; p++) s.due("a post that is not of the set", h.deal(7, 255 - (1 << p), way, sight, p), -1);
      for (int b = 0; b < 6; b++) s.due("a bloc that is not of the coalition", h.deal(63 - (1 << b), 255, way, sight, 10 + b), -1);
      for (int n = 0; n < 8; n++) {
        s.due("the last choice of " + n, h.deal(1, (1 << n) - 1, way, sight, 19 + n), n == 0 ? -1 : 0);
        s.due("a choice behind the last of " + n, h.deal(1, (1 << n) - 1, way, sight, 20 + n), -1);
      }
      s.due("a choice behind the last of 8", h.deal(1, 255, way, sight, 28), -1);
    }
  }

  private static void dealAnotherWhat(Sentences s) {
    Hall h = Hall.weighing(1, 1, 1, 1, 1, 1);
    for (int what : new int[] {-1, -2, -10, 8, 9, 16, 17, 18, 19, 28, 29, 30, 31, 32, 40, 42, 52, MIN_VALUE, MIN_VALUE + 10, MIN_VALUE + 20, MAX_VALUE}) for (boolean sight : new boolean[] {false, true}) {
      s.due("deal(63, 255, 0, " + sight + ", " + what + ")", h.deal(63, 255, 0, sight, what), -1);
    }
  }
}
