import static java.lang.Integer.MAX_VALUE;
import static java.lang.Integer.MIN_VALUE;

import java.util.List;

/** The edges of members, shifts, the view and days: part 1 of the terms, promises 1 to 6 and 18. */
final class MemberEdges {
  private MemberEdges() {}

  static void tell(Sentences s) {
    s.test("What it is", "An object is used for at most 512 calls after it has been made", MemberEdges::lastCall);

    s.test("Terms 1", "MEMBERS 0 .. 9, numbered as they come.", MemberEdges::numbersOfMembers);
    s.test("Terms 1", "SHIFTS: a MEMBER has from a DAY on (0 .. 999)", MemberEdges::dayOfShift);
    s.test("Terms 1", "a WEIGHT (0 .. 99)", MemberEdges::weightOfShift);
    s.test("Terms 1", "and a BLOC (0 .. 5), or is OUT", MemberEdges::blocOfShift);
    s.test("Terms 1", "told on a DAY, never below that of the telling ahead", MemberEdges::toldNotBelow);
    s.test("Terms 1", "(0 .. 999; 200 at most)", MemberEdges::dayOfTelling);
    s.test("Terms 1", "AS KNOWN on a DAY k: by those told by then", MemberEdges::knownByThen);
    s.test("Terms 1", "how a MEMBER is on a DAY d is told by the SHIFT from the latest DAY that is not behind d", MemberEdges::latestDay);
    s.test("Terms 1", "of like ones the latest told", MemberEdges::latestTold);
    s.test("Terms 1", "without one it is OUT", MemberEdges::outWithoutShift);
    s.test("Terms 1", "THE VIEW is a DAY d and a DAY k (999 and 999 at first)", MemberEdges::viewAtFirst);
    s.test("Terms 1", "MEMBERS that are not OUT in it are IN", MemberEdges::inWithoutWeight);
    s.test("Terms 1", "Sets of MEMBERS, BLOCS, POSTS, MOTIONS are numbers: x counts 2 to the x.", MemberEdges::emptyAndFullSets);
    s.test("Terms 1", "A set of MEMBERS may have those that are IN alone.", MemberEdges::setsOfThoseIn);

    s.test("Promise 1: A new object", "Nobody, no RULES.", MemberEdges::nobodyAtFirst);
    s.test("Promise 2: member", "A MEMBER: its number", MemberEdges::firstAndLastMember);
    s.test("Promise 2: member", "NONE if there are 10.", MemberEdges::noEleventhMember);
    s.test("Promise 3: shift", "A SHIFT (bloc -1: OUT): true", MemberEdges::shiftOut);
    s.test("Promise 3: shift", "false, and nothing is done, if one can't be", MemberEdges::shiftThatCannotBe);
    s.test("Promise 3: shift", "or there are 200", MemberEdges::noMoreThan200Shifts);
    s.test("Promise 4: view", "THE VIEW: true", MemberEdges::viewAtItsEnds);
    s.test("Promise 4: view", "false, and nothing is done, if one can't be.", MemberEdges::viewThatCannotBe);
    s.test("Promise 5: of", "Of MEMBER m in THE VIEW", MemberEdges::ofInTheView);
    s.test("Promise 5: of", "what 0 WEIGHT, 1 BLOC, 2 its WISH's first MOTION (NONE)", MemberEdges::ofOneIn);
    s.test("Promise 5: of", "NONE if it is OUT (for 0, 1)", MemberEdges::ofOneOut);
    s.test("Promise 5: of", "there is none such", MemberEdges::ofNoneSuch);
    s.test("Promise 5: of", "or another what", MemberEdges::ofAnotherWhat);
    s.test("Promise 6: look", "What 0 MEMBERS, 1 those IN as a set, 2 SHIFTS, 3 BLOCS that have MEMBERS IN, as a set, 4, 5 THE VIEW.", MemberEdges::lookEmptyAndFull);
    s.test("Promise 6: look", "NONE for another what.", MemberEdges::lookAnotherWhat);
    s.test("Promise 18: days", "On how many DAYS from a to b (0 <= a <= b <= 999)", MemberEdges::fromAToB);
    s.test("Promise 18: days", "as known on DAY k", MemberEdges::daysAsKnown);
    s.test("Promise 18: days", "those of a set of MEMBERS (any that came)", MemberEdges::daysOfAnyThatCame);
    s.test("Promise 18: days", "that are IN then CARRY", MemberEdges::daysOfThoseInThen);
    s.test("Promise 18: days", "NONE if one can't be.", MemberEdges::daysThatCannotBe);
  }

  private static void lastCall(Sentences s) {
    Hall h = new Hall();
    for (int m = 0; m < 10; m++) s.due("member()", h.member(), m);
    for (int i = 0; i < 200; i++) s.due("shift " + i, h.shift(i % 10, i, i % 100, i % 6, i), true);
    for (int n = 20; n <= 400; n += 20) s.due("feed", h.feed(n, n, n, n, n), n);
    s.due("end(0)", h.end(0), true);
    h.tell(0, "heads=10;");
    while (h.calls() < 508) s.due("call " + h.calls(), h.look(2), 200);
    s.due("call 509", h.of(9, 0), 99);
    s.due("call 510", h.carries(0, 1023), 1);
    s.due("call 511", h.power(0, 0, 4), 10);
    s.due("call 512", h.days(0, 1023, 0, 999, 999), 991);
  }

  private static void numbersOfMembers(Sentences s) {
    Hall h = new Hall();
    s.due("shift of 0 ahead of its coming", h.shift(0, 0, 1, 0, 0), false);
    for (int m = 0; m < 10; m++) {
      s.due("member()", h.member(), m);
      s.due("shift of " + m, h.shift(m, 0, m, 0, 0), true);
      s.due("of " + m, h.of(m, 0), m);
      s.due("shift of the next, that has not come", h.shift(m + 1, 0, 1, 0, 0), false);
      s.due("of the next", h.of(m + 1, 0), -1);
    }
    for (int m : new int[] {-1, 10, 32, 33, MIN_VALUE, MAX_VALUE}) s.due("shift of " + m, h.shift(m, 0, 1, 0, 0), false);
    s.due("look(1)", h.look(1), 1023);
  }

  private static void dayOfShift(Sentences s) {
    Hall h = Hall.weighing(1);
    for (int day : new int[] {-1, 1000, 1001, MIN_VALUE, MAX_VALUE}) s.due("from day " + day, h.shift(0, day, 5, 1, 0), false);
    s.due("look(2)", h.look(2), 1);
    s.due("from day 0", h.shift(0, 0, 5, 1, 0), true);
    s.due("from day 999", h.shift(0, 999, 6, 2, 0), true);
    h.view(0, 999);
    s.due("on day 0", h.of(0, 0), 5);
    h.view(998, 999);
    s.due("on day 998", h.of(0, 0), 5);
    h.view(999, 999);
    s.due("on day 999", h.of(0, 0), 6);
  }

  private static void weightOfShift(Sentences s) {
    Hall h = Hall.weighing(1);
    for (int weight : new int[] {-1, 100, 101, MIN_VALUE, MAX_VALUE}) {
      s.due("weight " + weight, h.shift(0, 0, weight, 0, 0), false);
      s.due("of", h.of(0, 0), 1);
    }
    for (int weight : new int[] {0, 99}) {
      s.due("weight " + weight, h.shift(0, 0, weight, 0, 0), true);
      s.due("of", h.of(0, 0), weight);
    }
  }

  private static void blocOfShift(Sentences s) {
    Hall h = Hall.weighing(1);
    for (int bloc : new int[] {-2, 6, 7, 31, 32, MIN_VALUE, MAX_VALUE}) {
      s.due("bloc " + bloc, h.shift(0, 0, 1, bloc, 0), false);
      s.due("of", h.of(0, 1), 0);
    }
    s.due("bloc 5", h.shift(0, 0, 1, 5, 0), true);
    s.due("of", h.of(0, 1), 5);
    s.due("bloc 0", h.shift(0, 0, 1, 0, 0), true);
    s.due("of", h.of(0, 1), 0);
    s.due("out", h.shift(0, 0, 1, -1, 0), true);
    s.due("of", h.of(0, 1), -1);
    s.due("look(1)", h.look(1), 0);
  }

  private static void toldNotBelow(Sentences s) {
    Hall h = new Hall();
    h.member();
    h.member();
    s.due("the first, told on 50", h.shift(0, 0, 1, 0, 50), true);
    s.due("told on 49", h.shift(0, 0, 2, 0, 49), false);
    s.due("told on 0", h.shift(0, 0, 2, 0, 0), false);
    s.due("told on 49 of another", h.shift(1, 0, 2, 0, 49), false);
    s.due("of", h.of(0, 0), 1);
    s.due("told on 50 once more", h.shift(1, 0, 3, 0, 50), true);
    s.due("told on 900, but it can't be", h.shift(1, 0, 100, 0, 900), false);
    s.due("a refused telling is not ahead", h.shift(1, 0, 4, 0, 51), true);
    s.due("told on 50", h.shift(0, 0, 5, 0, 50), false);
    s.due("the day from which it is may be below", h.shift(0, 3, 6, 0, 999), true);
    s.due("told on 998", h.shift(0, 4, 6, 0, 998), false);
    s.due("look(2)", h.look(2), 4);
  }

  private static void dayOfTelling(Sentences s) {
    Hall h = new Hall();
    h.member();
    for (int told : new int[] {-1, 1000, 1001, MIN_VALUE, MAX_VALUE}) s.due("told on " + told, h.shift(0, 0, 1, 0, told), false);
    s.due("look(2)", h.look(2), 0);
    s.due("told on 0", h.shift(0, 0, 1, 0, 0), true);
    s.due("told on 999", h.shift(0, 0, 2, 0, 999), true);
    s.due("told on 1000", h.shift(0, 0, 3, 0, 1000), false);
    for (int i = 2; i < 200; i++) s.due("shift " + i, h.shift(0, i, 3, 0, 999), true);
    s.due("one more than 200", h.shift(0, 0, 4, 0, 999), false);
    s.due("look(2)", h.look(2), 200);
  }

  private static void knownByThen(Sentences s) {
    Hall h = new Hall();
    h.member();
    h.shift(0, 0, 7, 3, 500);
    h.tell(0, "weight=7;");
    int[][] due = {{0, -1}, {499, -1}, {500, 7}, {501, 7}, {999, 7}};
    for (int[] d : due) {
      h.view(999, d[0]);
      s.due("as known on " + d[0], h.of(0, 0), d[1]);
      s.due("days as known on " + d[0], h.days(0, 1, 3, 3, d[0]), d[1] < 0 ? 0 : 1);
    }
  }

  private static void latestDay(Sentences s) {
    Hall h = new Hall();
    h.member();
    h.shift(0, 500, 5, 0, 0);
    h.shift(0, 700, 7, 0, 0);
    h.shift(0, 600, 6, 0, 9);
    int[][] due = {{0, -1}, {499, -1}, {500, 5}, {599, 5}, {600, 6}, {699, 6}, {700, 7}, {999, 7}};
    for (int[] d : due) {
      h.view(d[0], 999);
      s.due("on day " + d[0], h.of(0, 0), d[1]);
    }
    h.view(699, 8);
    s.due("as known ahead of the last telling", h.of(0, 0), 5);
  }

  private static void latestTold(Sentences s) {
    Hall h = new Hall();
    h.member();
    h.shift(0, 5, 1, 0, 10);
    h.shift(0, 5, 2, 1, 20);
    h.shift(0, 5, 3, 2, 20);
    h.shift(0, 4, 4, 3, 30);
    int[][] due = {{9, -1}, {10, 1}, {19, 1}, {20, 3}, {999, 3}};
    for (int[] d : due) {
      h.view(5, d[0]);
      s.due("as known on " + d[0], h.of(0, 0), d[1]);
    }
    h.shift(0, 5, 4, 3, 999);
    h.shift(0, 5, 0, -1, 999);
    s.due("out by the latest of one day", h.of(0, 0), -1);
    h.shift(0, 5, 9, 3, 999);
    s.due("in by the latest of one day", h.of(0, 0), 9);
  }

  private static void outWithoutShift(Sentences s) {
    Hall h = new Hall();
    h.member();
    h.member();
    h.shift(0, 999, 1, 0, 0);
    h.view(998, 999);
    for (int m = 0; m < 2; m++) for (int what = 0; what < 2; what++) s.due("of(" + m + ", " + what + ")", h.of(m, what), -1);
    s.due("look(1)", h.look(1), 0);
    s.due("look(3)", h.look(3), 0);
    h.view(999, 999);
    s.due("look(1) on day 999", h.look(1), 1);
  }

  private static void viewAtFirst(Sentences s) {
    Hall h = new Hall();
    s.due("look(4)", h.look(4), 999);
    s.due("look(5)", h.look(5), 999);
    h.member();
    s.due("shift on the last days", h.shift(0, 999, 3, 0, 999), true);
    s.due("seen at first", h.of(0, 0), 3);
  }

  private static void inWithoutWeight(Sentences s) {
    Hall h = Hall.weighing(0, 0);
    s.due("look(1): weight 0 is not out", h.look(1), 3);
    h.shift(1, 0, 99, -1, 0);
    s.due("look(1): a weight does not make one in", h.look(1), 1);
    s.due("of", h.of(1, 0), -1);
  }

  private static void emptyAndFullSets(Sentences s) {
    Hall h = Hall.ten().tell(0, "heads=0 or heads=10;").tell(1, "has 0;");
    h.wish(0, 543210);
    s.due("the empty set of members", h.carries(0, 0), 1);
    s.due("the full set of members", h.carries(0, 1023), 1);
    s.due("the set of the greatest alone", h.carries(0, 512), 0);
    for (int set : new int[] {1024, 1025, -1, MIN_VALUE, MAX_VALUE}) s.due("no set of members: " + set, h.carries(0, set), -1);
    s.due("the full set of motions", h.best(1, 63), 5);
    s.due("the least motion alone", h.best(1, 1), 0);
    s.due("the greatest motion alone", h.best(1, 32), 5);
    for (int set : new int[] {64, 65, -1, MIN_VALUE, MAX_VALUE}) {
      s.due("no set of motions: " + set, h.best(1, set), -1);
      s.due("no set of motions: " + set, h.through(1, set, 0, false, 0), -1);
      s.due("no set of blocs: " + set, h.deal(set, 1, 0, false, 20), -1);
    }
    s.due("the full sets of blocs and posts", h.deal(63, 255, 0, false, 27), 3);
    s.due("the greatest bloc and post alone", h.deal(32, 128, 0, false, 7), 5);
    for (int set : new int[] {256, 257, -1, MIN_VALUE, MAX_VALUE}) s.due("no set of posts: " + set, h.deal(1, set, 0, false, 10), -1);
  }

  private static void setsOfThoseIn(Sentences s) {
    Hall h = Hall.weighing(1, 1, 1);
    h.member();
    h.tell(0, "1=1;");
    h.shift(1, 5, 0, -1, 0);
    int[] due = {1, 1, -1, -1, 1, 1, -1, -1, -1, -1};
    for (int set = 0; set < due.length; set++) s.due("carries(0, " + set + ")", h.carries(0, set), due[set]);
    h.view(4, 999);
    s.due("in a day ahead", h.carries(0, 7), 1);
    s.due("one that is out on every day", h.carries(0, 8), -1);
  }

  private static void nobodyAtFirst(Sentences s) {
    Hall h = new Hall();
    for (int what = 0; what < 4; what++) s.due("look(" + what + ")", h.look(what), 0);
    for (int r = 0; r < 4; r++) {
      s.due("carries(" + r + ", 0)", h.carries(r, 0), 0);
      s.due("carries(" + r + ", 1)", h.carries(r, 1), -1);
      s.due("leasts(" + r + ", 0)", h.leasts(r, 0), 0);
      s.due("the empty set stops", h.leasts(r, 1), 1);
      s.due("the empty set stops", h.least(r, 1, 0), 0);
      s.due("odd", h.odd(r, 0), -1);
      s.due("trade", h.trade(r, 0), -1);
      s.due("days", h.days(r, 0, 0, 999, 999), 0);
      s.due("coalition", h.coalition(r, 0), -1);
      s.due("coalition", h.coalition(r, 3), 0);
      s.due("agenda", h.agenda(r, 9543210, true), 5);
      s.due("best", h.best(r, 63), -1);
    }
    for (int what = 0; what < 3; what++) s.due("of(0, " + what + ")", h.of(0, what), -1);
    s.due("support", h.support(0, 5), 0);
    s.due("fault(0)", h.fault(0), 0);
    s.due("fault(1)", h.fault(1), -1);
    s.due("nothing on the tape", h.end(1), false);
    s.due("deal", h.deal(1, 1, 0, false, 10), -1);
    h.member();
    h.shift(0, 0, 1, 0, 0);
    s.due("of one member: no rule at first", h.carries(0, 1), 0);
    s.due("no place, no value at first", h.deal(1, 255, 0, true, 10), 0);
  }

  private static void firstAndLastMember(Sentences s) {
    Hall h = new Hall();
    s.due("the first", h.member(), 0);
    s.due("look(0)", h.look(0), 1);
    for (int m = 1; m < 9; m++) h.member();
    s.due("the tenth", h.member(), 9);
    s.due("look(0)", h.look(0), 10);
    s.due("it is out", h.look(1), 0);
  }

  private static void noEleventhMember(Sentences s) {
    Hall h = Hall.ten();
    for (int n = 0; n < 3; n++) s.due("member()", h.member(), -1);
    s.due("look(0)", h.look(0), 10);
    s.due("look(1)", h.look(1), 1023);
    s.due("shift of 10", h.shift(10, 0, 1, 0, 0), false);
    s.due("wish of 10", h.wish(10, 12345), false);
    s.due("days of 10", h.days(0, 1024, 0, 0, 0), -1);
  }

  private static void shiftOut(Sentences s) {
    Hall h = Hall.weighing(4);
    s.due("shift", h.shift(0, 10, 0, -1, 0), true);
    s.due("it is out", h.look(1), 0);
    s.due("it counts as a shift", h.look(2), 2);
    h.view(9, 999);
    s.due("in ahead of it", h.of(0, 0), 4);
    s.due("out of what was never in", new Hall().shift(0, 0, 0, -1, 0), false);
    Hall other = new Hall();
    other.member();
    s.due("out of one without a shift", other.shift(0, 0, 0, -1, 0), true);
    s.due("it is out", other.of(0, 0), -1);
  }

  private static void shiftThatCannotBe(Sentences s) {
    Hall h = Hall.busy();
    List<String> before = h.state();
    int[][] bad = {{-1, 0, 1, 0, 20}, {8, 0, 1, 0, 20}, {0, -1, 1, 0, 20}, {0, 1000, 1, 0, 20}, {0, 0, -1, 0, 20}, {0, 0, 100, 0, 20}, {0, 0, 1, -2, 20}, {0, 0, 1, 6, 20},
      {0, 0, 1, 0, 19}, {0, 0, 1, 0, -1}, {0, 0, 1, 0, 1000}, {0, 1000, 0, -1, 20}, {8, 0, 0, -1, 20}, {0, 0, 0, -1, 19}};
    for (int[] b : bad) s.due("shift(" + b[0] + ", " + b[1] + ", " + b[2] + ", " + b[3] + ", " + b[4] + ")", h.shift(b[0], b[1], b[2], b[3], b[4]), false);
    s.same("shifts that can't be", h.state(), before);
  }

  private static void noMoreThan200Shifts(Sentences s) {
    Hall h = new Hall();
    h.member();
    for (int i = 0; i < 200; i++) s.due("shift " + i, h.shift(0, i, 1 + i % 9, i % 6, 7), true);
    List<String> before = h.state();
    s.due("the 201st", h.shift(0, 999, 50, 0, 7), false);
    s.due("the 201st, told later", h.shift(0, 0, 50, 0, 999), false);
    s.due("the 201st, out", h.shift(0, 999, 0, -1, 999), false);
    s.same("the 201st shift", h.state(), before);
  }

  private static void viewAtItsEnds(Sentences s) {
    Hall h = new Hall();
    int[][] good = {{0, 0}, {0, 999}, {999, 0}, {999, 999}, {500, 499}};
    for (int[] g : good) {
      s.due("view(" + g[0] + ", " + g[1] + ")", h.view(g[0], g[1]), true);
      s.due("look(4)", h.look(4), g[0]);
      s.due("look(5)", h.look(5), g[1]);
    }
  }

  private static void viewThatCannotBe(Sentences s) {
    Hall h = Hall.busy();
    List<String> before = h.state();
    int[] bad = {-1, 1000, MIN_VALUE, MAX_VALUE};
    for (int b : bad) {
      s.due("view(" + b + ", 0)", h.view(b, 0), false);
      s.due("view(0, " + b + ")", h.view(0, b), false);
      s.due("view(" + b + ", " + b + ")", h.view(b, b), false);
    }
    s.same("views that can't be", h.state(), before);
  }

  private static void ofInTheView(Sentences s) {
    Hall h = new Hall();
    h.member();
    h.shift(0, 10, 3, 1, 5);
    h.shift(0, 20, 4, 2, 6);
    int[][] due = {{9, 999, -1, -1}, {10, 999, 3, 1}, {19, 999, 3, 1}, {20, 999, 4, 2}, {999, 4, -1, -1}, {999, 5, 3, 1}, {999, 6, 4, 2}, {9, 5, -1, -1}};
    for (int[] d : due) {
      s.due("view(" + d[0] + ", " + d[1] + ")", h.view(d[0], d[1]), true);
      s.due("its weight in view(" + d[0] + ", " + d[1] + ")", h.of(0, 0), d[2]);
      s.due("its bloc in view(" + d[0] + ", " + d[1] + ")", h.of(0, 1), d[3]);
    }
  }

  private static void ofOneIn(Sentences s) {
    Hall h = Hall.weighing(0, 99);
    h.shift(1, 0, 99, 5, 0);
    int[][] due = {{0, 0, -1}, {99, 5, -1}};
    for (int m = 0; m < 2; m++) for (int what = 0; what < 3; what++) s.due("of(" + m + ", " + what + ")", h.of(m, what), due[m][what]);
    h.wish(0, 12345);
    h.wish(1, 543210);
    s.due("the first motion 0", h.of(0, 2), 0);
    s.due("the first motion 5", h.of(1, 2), 5);
    h.wish(1, -1);
    s.due("no wish any more", h.of(1, 2), -1);
  }

  private static void ofOneOut(Sentences s) {
    Hall h = Hall.weighing(3);
    h.member();
    h.wish(0, 312450);
    h.wish(1, 512430);
    h.shift(0, 0, 3, -1, 0);
    for (int m = 0; m < 2; m++) for (int what = 0; what < 2; what++) s.due("of(" + m + ", " + what + ")", h.of(m, what), -1);
    s.due("its wish all the same", h.of(0, 2), 3);
    s.due("the wish of one that was never in", h.of(1, 2), 5);
  }

  private static void ofNoneSuch(Sentences s) {
    Hall h = Hall.weighing(3, 4);
    h.wish(0, 312450);
    h.wish(1, 312450);
    for (int m : new int[] {-1, 2, 9, 10, 32, 33, MIN_VALUE, MAX_VALUE}) for (int what = 0; what < 3; what++) s.due("of(" + m + ", " + what + ")", h.of(m, what), -1);
  }

  private static void ofAnotherWhat(Sentences s) {
    Hall h = Hall.weighing(3);
    h.wish(0, 312450);
    for (int what : new int[] {-1, 3, 4, MIN_VALUE, MAX_VALUE}) s.due("of(0, " + what + ")", h.of(0, what), -1);
  }

  private static void lookEmptyAndFull(Sentences s) {
    Hall h = new Hall();
    int[] empty = {0, 0, 0, 0, 999, 999};
    for (int what = 0; what < 6; what++) s.due("look(" + what + ") of nobody", h.look(what), empty[what]);
    for (int m = 0; m < 10; m++) h.member();
    s.due("nobody in", h.look(1), 0);
    s.due("no bloc", h.look(3), 0);
    for (int i = 0; i < 200; i++) h.shift(i % 10, i / 10, 0, i % 6, 0);
    h.view(19, 0);
    int[] full = {10, 1023, 200, 63, 19, 0};
    for (int what = 0; what < 6; what++) s.due("look(" + what + ") full", h.look(what), full[what]);
  }

  private static void lookAnotherWhat(Sentences s) {
    Hall h = Hall.busy();
    for (int what : new int[] {-1, 6, 7, MIN_VALUE, MAX_VALUE}) s.due("look(" + what + ")", h.look(what), -1);
  }

  private static void fromAToB(Sentences s) {
    Hall h = new Hall().tell(0, "1=1;");
    int[][] due = {{0, 0, 1}, {999, 999, 1}, {0, 999, 1000}, {0, 998, 999}, {1, 999, 999}, {500, 500, 1}, {-1, 0, -1}, {-1, -1, -1}, {0, 1000, -1}, {1000, 1000, -1},
      {1, 0, -1}, {999, 0, -1}, {500, 499, -1}, {MIN_VALUE, MAX_VALUE, -1}, {0, MAX_VALUE, -1}, {MIN_VALUE, 0, -1}, {MAX_VALUE, MAX_VALUE, -1}, {MIN_VALUE, MIN_VALUE, -1}};
    for (int[] d : due) s.due("from " + d[0] + " to " + d[1], h.days(0, 0, d[0], d[1], 0), d[2]);
    Hall last = Hall.weighing(1).tell(0, "weight=2;");
    last.shift(0, 999, 2, 0, 0);
    s.due("the last day counts", last.days(0, 1, 0, 999, 0), 1);
    s.due("but not if b is ahead of it", last.days(0, 1, 0, 998, 0), 0);
    Hall first = Hall.weighing(1).tell(0, "weight=1;");
    first.shift(0, 1, 2, 0, 0);
    s.due("the first day counts", first.days(0, 1, 0, 999, 0), 1);
    s.due("but not if a is behind it", first.days(0, 1, 1, 999, 0), 0);
    Hall one = new Hall().tell(0, "heads=1;");
    one.member();
    one.shift(0, 500, 1, 0, 0);
    s.due("from the day of the only shift on", one.days(0, 1, 0, 999, 0), 500);
    s.due("the day ahead of it", one.days(0, 1, 499, 499, 0), 0);
    s.due("its day", one.days(0, 1, 500, 500, 0), 1);
    Hall full = new Hall().tell(0, "weight>0;");
    full.member();
    for (int i = 0; i < 200; i++) full.shift(0, 1 + 5 * i, i % 2, 0, 0);
    s.due("200 shifts, each from another day", full.days(0, 1, 0, 999, 0), 499);
    s.due("up to the last one but one", full.days(0, 1, 0, 995, 0), 495);
  }

  private static void daysAsKnown(Sentences s) {
    Hall h = new Hall().tell(0, "heads=1;");
    h.member();
    h.shift(0, 0, 1, 0, 0);
    h.shift(0, 10, 0, -1, 500);
    h.shift(0, 20, 1, 0, 999);
    int[][] due = {{0, 1000}, {499, 1000}, {500, 10}, {998, 10}, {999, 990}, {-1, -1}, {1000, -1}, {MIN_VALUE, -1}, {MAX_VALUE, -1}};
    for (int[] d : due) s.due("as known on " + d[0], h.days(0, 1, 0, 999, d[0]), d[1]);
    h.view(15, 500);
    s.due("not by the view", h.days(0, 1, 0, 999, 0), 1000);
    s.due("the view stays", h.look(4), 15);
    s.due("the view stays", h.look(5), 500);
    s.due("the view stays", h.look(1), 0);
  }

  private static void daysOfAnyThatCame(Sentences s) {
    Hall h = new Hall().tell(0, "1=1;");
    s.due("the empty set of nobody", h.days(0, 0, 0, 9, 0), 10);
    s.due("a set of nobody", h.days(0, 1, 0, 9, 0), -1);
    for (int m = 0; m < 10; m++) {
      h.member();
      s.due("all that came", h.days(0, (1 << m + 1) - 1, 0, 9, 0), 10);
      s.due("one that has not come", h.days(0, 1 << m + 1, 0, 9, 0), -1);
    }
    for (int set : new int[] {1024, 2047, -1, MIN_VALUE, MAX_VALUE}) s.due("days of " + set, h.days(0, set, 0, 9, 0), -1);
  }

  private static void daysOfThoseInThen(Sentences s) {
    Hall h = Hall.weighing(1, 1).tell(0, "heads=2;").tell(1, "heads=0;").tell(2, "members=1;").tell(3, "has 1;");
    h.shift(1, 5, 0, -1, 0);
    h.shift(0, 8, 0, -1, 0);
    s.due("both", h.days(0, 3, 0, 9, 0), 5);
    s.due("none of the set is in", h.days(1, 3, 0, 9, 0), 2);
    s.due("the empty set", h.days(1, 0, 0, 9, 0), 10);
    s.due("one is in, whatever the set", h.days(2, 0, 0, 9, 0), 3);
    s.due("an out one of the set does not count", h.days(3, 2, 0, 9, 0), 5);
  }

  private static void daysThatCannotBe(Sentences s) {
    Hall h = Hall.busy();
    List<String> before = h.state();
    for (int r : new int[] {-1, 4, MIN_VALUE, MAX_VALUE}) s.due("rule " + r, h.days(r, 1, 0, 9, 0), -1);
    s.due("a set", h.days(0, 256, 0, 9, 0), -1);
    s.due("a set", h.days(0, -1, 0, 9, 0), -1);
    s.due("a", h.days(0, 1, -1, 9, 0), -1);
    s.due("b", h.days(0, 1, 0, 1000, 0), -1);
    s.due("b below a", h.days(0, 1, 9, 8, 0), -1);
    s.due("k", h.days(0, 1, 0, 9, -1), -1);
    s.due("k", h.days(0, 1, 0, 9, 1000), -1);
    s.due("all at their ends", h.days(3, 255, 0, 999, 999) >= 0, true);
    s.same("days()", h.state(), before);
  }
}
