import static java.lang.Integer.MAX_VALUE;
import static java.lang.Integer.MIN_VALUE;

import java.util.List;

/** The edges of the tape and of rules as texts: part 2 of the terms, promises 7 to 11. */
final class RuleEdges {
  private RuleEdges() {}

  static void tell(Sentences s) {
    s.test("Terms 2", "RULES 0 .. 3 are TEXTS", RuleEdges::fourRules);
    s.test("Terms 2", "= B ;", RuleEdges::oneOnlyAndItsEnd);
    s.test("Terms 2", "(an empty TEXT: nothing carries, as at first)", RuleEdges::emptyText);
    s.test("Terms 2", "B = A {or A}.", RuleEdges::manyOrs);
    s.test("Terms 2", "A = C {and C}.", RuleEdges::manyAnds);
    s.test("Terms 2", "C = E (< | = | >) E", RuleEdges::comparisonsAtOneNumber);
    s.test("Terms 2", "| not C | has N | ( B )", RuleEdges::clausesAlone);
    s.test("Terms 2", "E = T {(+ | -) T}.", RuleEdges::manySums);
    s.test("Terms 2", "T = U {* U}.", RuleEdges::manyProducts);
    s.test("Terms 2", "U = NUMBER | heads | weight | members | all | heads of N | weight of N.", RuleEdges::everyUnit);
    s.test("Terms 2", "(N behind has: a MEMBER 0 .. 9; behind of: a BLOC 0 .. 5.)", RuleEdges::numbersBehindHasAndOf);
    s.test("Terms 2", "TOKENS: letters as many as stand together are KEYWORDS (those told here) or none", RuleEdges::lettersTogether);
    s.test("Terms 2", "digits as many as stand together NUMBERS of 1 to 4 digits or none", RuleEdges::digitsTogether);
    s.test("Terms 2", "; + - * ( ) < = > .", RuleEdges::everyByte);
    s.test("Terms 2", "Blanks (32, 10) between.", RuleEdges::blanksBetween);
    s.test("Terms 2", "Ints, which wrap.", RuleEdges::intsWrap);
    s.test("Terms 2", "FAULTS, the first by its place", RuleEdges::firstFault);
    s.test("Terms 2", "at one place the least", RuleEdges::leastFault);
    s.test("Terms 2", "1 what can't stand there", RuleEdges::cannotStand);
    s.test("Terms 2", "(the end: the text's length;", RuleEdges::endOfText);
    s.test("Terms 2", "anything behind the ;)", RuleEdges::behindTheSemicolon);
    s.test("Terms 2", "2 (at the NUMBER) a MEMBER above 9, a BLOC above 5.", RuleEdges::noneSuch);
    s.test("Terms 2", "3 (at it) the 9th ( or not that is open.", RuleEdges::ninthOpen);
    s.test("Terms 2", "Asked of a set: heads how many MEMBERS it has, weight their WEIGHTS together", RuleEdges::headsAndWeight);
    s.test("Terms 2", "members how many are IN, all the WEIGHTS of all IN", RuleEdges::membersAndAll);
    s.test("Terms 2", "of N: of those of the set that are of this BLOC", RuleEdges::ofABloc);
    s.test("Terms 2", "has N: MEMBER N is in it", RuleEdges::hasAMember);
    s.test("Terms 2", "It CARRIES, if B is so.", RuleEdges::carriesIfSo);

    s.test("Promise 7: feed", "Twenty bytes come behind the TAPE", RuleEdges::behindTheTape);
    s.test("Promise 7: feed", "of each number the highest first", RuleEdges::highestByteFirst);
    s.test("Promise 7: feed", "how many it has.", RuleEdges::howManyTheTapeHas);
    s.test("Promise 7: feed", "NONE, and nothing comes, if there would be more than 400.", RuleEdges::fullTape);
    s.test("Promise 8: end", "The TAPE has its first n bytes alone: true", RuleEdges::firstBytesAlone);
    s.test("Promise 8: end", "false, changing nothing, if it has not so many, or n is below 0.", RuleEdges::endThatCannotBe);
    s.test("Promise 9: rule", "The TAPE, empty then, is RULE r: true", RuleEdges::tapeEmptyThen);
    s.test("Promise 9: rule", "false: none such", RuleEdges::noSuchRule);
    s.test("Promise 9: rule", "or a FAULT (it stays)", RuleEdges::faultyRuleStays);
    s.test("Promise 10: fault", "Of the latest rule() of 0 .. 3", RuleEdges::faultOfLatestRule);
    s.test("Promise 10: fault", "what 0 the FAULT (0 without one), 1 its place (NONE).", RuleEdges::withoutFault);
    s.test("Promise 10: fault", "NONE for another what.", RuleEdges::faultAnotherWhat);
    s.test("Promise 11: carries", "Whether a set CARRIES: 1, 0", RuleEdges::emptyAndFullCarry);
    s.test("Promise 11: carries", "NONE if one can't be.", RuleEdges::carriesThatCannotBe);
  }

  private static void holds(Sentences s, Hall h, int set, String... texts) {
    for (String text : texts) s.due(text + " of set " + set, h.so(text, set), 1);
  }

  private static void fails(Sentences s, Hall h, int set, String... texts) {
    for (String text : texts) s.due(text + " of set " + set, h.so(text, set), 0);
  }

  private static void faulty(Sentences s, int kind, int place, String text) {
    fault(s, new Hall(), text, kind + " at " + place);
  }

  private static void fault(Sentences s, Hall h, String text, String due) {
    String found = h.faultOf(text);
    s.due("that the fault of " + text + " is " + due + ", not " + found + ",", found.equals(due), true);
  }

  private static void good(Sentences s, String text) { faulty(s, 0, -1, text); }

  private static void fourRules(Sentences s) {
    Hall h = Hall.ten();
    for (int r = 0; r < 4; r++) h.tell(r, "heads=" + (r + 1) + ";");
    for (int r = 0; r < 4; r++) for (int n = 0; n < 6; n++) s.due("rule " + r + " of " + n, h.carries(r, (1 << n) - 1), n == r + 1 ? 1 : 0);
    for (int r : new int[] {-1, 4, 5, MIN_VALUE, MAX_VALUE}) {
      s.due("rule(" + r + ")", h.type("1=1;").rule(r), false);
      s.due("carries(" + r + ", 0)", h.carries(r, 0), -1);
    }
  }

  private static void emptyText(Sentences s) {
    for (String text : new String[] {"", " ", "\n", " \n \n", " ".repeat(399), "\n".repeat(400)}) {
      Hall h = Hall.ten().tell(0, "1=1;");
      s.due("1=1;", h.carries(0, 0), 1);
      s.due("leasts", h.leasts(0, 0), 1);
      s.due("rule() of an empty text", h.type(text).rule(0), true);
      for (int set : new int[] {0, 1, 512, 1023}) s.due("carries(0, " + set + ")", h.carries(0, set), 0);
      s.due("leasts", h.leasts(0, 0), 0);
      s.due("the empty set stops", h.least(0, 1, 0), 0);
      s.due("coalition", h.coalition(0, 3), 0);
      s.due("fault(0)", h.fault(0), 0);
      s.due("fault(1)", h.fault(1), -1);
    }
  }

  private static void manyOrs(Sentences s) {
    Hall h = new Hall();
    fails(s, h, 0, "1=2;", "1=2 or 1=2;", "1=2" + " or 1=2".repeat(49) + ";");
    holds(s, h, 0, "1=1;", "1=1 or 1=2;", "1=2 or 1=1;", "1=2" + " or 1=2".repeat(48) + " or 1=1;", "1=1" + " or 1=2".repeat(49) + ";");
    holds(s, h, 0, "1=1 or 1=2 and 1=2;", "1=2 and 1=2 or 1=1;");
    fails(s, h, 0, "(1=1 or 1=1) and 1=2;");
    faulty(s, 1, 0, "or 1=1;");
    faulty(s, 1, 6, "1=1 or;");
    faulty(s, 1, 7, "1=1 or or 1=1;");
  }

  private static void manyAnds(Sentences s) {
    Hall h = new Hall();
    holds(s, h, 0, "1=1;", "1=1 and 1=1;", "1=1" + " and 1=1".repeat(49) + ";");
    fails(s, h, 0, "1=1 and 1=2;", "1=2 and 1=1;", "1=1" + " and 1=1".repeat(48) + " and 1=2;", "1=2" + " and 1=1".repeat(49) + ";");
    faulty(s, 1, 0, "and 1=1;");
    faulty(s, 1, 7, "1=1 and;");
    faulty(s, 1, 8, "1=1 and or 1=1;");
  }

  private static void comparisonsAtOneNumber(Sentences s) {
    Hall h = new Hall();
    holds(s, h, 0, "6<7;", "7=7;", "8>7;", "0=0;", "0-1<0;", "0>0-1;", "9998<9999;", "6<7 and 7=7 and 8>7;");
    fails(s, h, 0, "not 6<7;", "not 7=7;", "not 8>7;", "7<7;", "8<7;", "6=7;", "8=7;", "7>7;", "6>7;", "0<0-1;", "0-1>0;");
    faulty(s, 1, 3, "7=7=7;");
    faulty(s, 1, 2, "7<=7;");
    faulty(s, 1, 1, "7;");
    faulty(s, 1, 0, "=7;");
    faulty(s, 1, 2, "7=;");
  }

  private static void clausesAlone(Sentences s) {
    Hall h = Hall.weighing(1);
    holds(s, h, 1, "has 0;", "not 1=2;", "not not has 0;", "(has 0);", "((has 0));", "not (has 1);", "(not has 1);", "not 1=2 and 1=1;", "not 1=1 or 1=1;");
    fails(s, h, 1, "has 1;", "not has 0;", "not (has 0);", "(not has 0);", "not not has 1;", "not 1=2 and 1=2;", "not (1=1 or 1=1);");
    faulty(s, 1, 3, "not;");
    faulty(s, 1, 3, "has;");
    faulty(s, 1, 1, "();");
    faulty(s, 1, 1, "(;");
    faulty(s, 1, 0, ");");
    faulty(s, 1, 6, "(has 0;");
    faulty(s, 1, 5, "has 0);");
  }

  private static void manySums(Sentences s) {
    Hall h = new Hall();
    holds(s, h, 0, "1=1;", "1+0=1;", "9-3-2=4;", "9-3+2=8;", "9+3-2=10;", "1" + "+1".repeat(150) + "=151;", "1" + "-1".repeat(150) + "=0-149;", "7=9-1-1;", "0-0=0;");
    holds(s, h, 0, "1" + "+1".repeat(196) + "=197;", "197=1" + "+1".repeat(196) + ";");
    faulty(s, 1, 0, "+1=1;");
    faulty(s, 1, 0, "-1=1;");
    faulty(s, 1, 2, "1=-1;");
    faulty(s, 1, 2, "1+=1;");
    faulty(s, 1, 4, "1=1-;");
    faulty(s, 1, 2, "1+-1=0;");
  }

  private static void manyProducts(Sentences s) {
    Hall h = new Hall();
    holds(s, h, 0, "2*3=6;", "2*0=0;", "1" + "*1".repeat(196) + "=1;", "2" + "*2".repeat(29) + "=1024*1024*1024;", "2+3*4=14;", "2*3+4=10;", "20-2*3*2-1=7;", "9=3*3;");
    faulty(s, 1, 0, "*1=1;");
    faulty(s, 1, 2, "1*=1;");
    faulty(s, 1, 2, "1**1=1;");
    faulty(s, 1, 2, "2*(1)=2;");
  }

  private static void everyUnit(Sentences s) {
    Hall h = Hall.weighing(4, 3, 2);
    holds(s, h, 5, "0=0;", "heads=2;", "weight=6;", "members=3;", "all=9;", "heads of 0=1;", "heads of 1=0;", "weight of 2=2;", "weight of 1=0;");
    faulty(s, 1, 8, "members of 1=1;");
    faulty(s, 1, 4, "all of 1=1;");
    faulty(s, 1, 2, "1 of 1=1;");
    faulty(s, 1, 0, "of 1=1;");
    faulty(s, 1, 8, "heads of=1;");
    faulty(s, 1, 9, "heads of heads=1;");
    faulty(s, 1, 9, "weight of;");
  }

  private static void numbersBehindHasAndOf(Sentences s) {
    Hall h = Hall.ten();
    for (int n = 0; n < 10; n++) {
      s.due("has " + n, h.so("has " + n + ";", 1 << n), 1);
      s.due("has " + n, h.so("has " + n + ";", 1023 - (1 << n)), 0);
    }
    for (int n = 0; n < 6; n++) {
      s.due("heads of " + n, h.so("heads of " + n + "=" + (n < 4 ? 2 : 1) + ";", 1023), 1);
      s.due("weight of " + n, h.so("weight of " + n + "=" + (n < 4 ? 2 : 1) + ";", 1023), 1);
    }
    good(s, "has 9;");
    good(s, "has 0009;");
    faulty(s, 2, 4, "has 10;");
    faulty(s, 2, 4, "has 9999;");
    good(s, "heads of 5=0;");
    good(s, "weight of 0005=0;");
    faulty(s, 2, 9, "heads of 6=0;");
    faulty(s, 2, 10, "weight of 6=0;");
    faulty(s, 2, 10, "weight of 9999=0;");
  }

  private static void lettersTogether(Sentences s) {
    good(s, "not has 1and has 2or weight of 1>heads and members=all;");
    for (String word : new String[] {"o", "orr", "an", "ands", "no", "nott", "ha", "hass", "head", "headss", "weigh", "weights", "member", "memberss", "al", "alll", "o", "off", "x", "Heads",
      "HEADS", "headS", "notnot", "hasnot", "a", "z", "A", "Z", "headsof", "headsa", "headsz", "headsA", "headsZ", "zheads", "Aheads", "q".repeat(300)}) {
      faulty(s, 1, 0, word + ";");
      faulty(s, 1, 2, "1=" + word + ";");
      faulty(s, 1, 4, "1=1 " + word + " 1=1;");
    }
    faulty(s, 1, 4, "1=1 andhas 1;");
    good(s, "1=1and has 1;");
  }

  private static void digitsTogether(Sentences s) {
    Hall h = new Hall();
    holds(s, h, 0, "1=1;", "12=12;", "123=0123;", "9999=9999;", "0000=0;", "0007=7;", "9999+1=5000*2;");
    for (String digits : new String[] {"00000", "10000", "12345", "00001", "99999", "4294967297", "1".repeat(390)}) {
      faulty(s, 1, 0, digits + "=1;");
      faulty(s, 1, 2, "1=" + digits + ";");
    }
    faulty(s, 1, 4, "has 00001;");
    faulty(s, 1, 4, "has 10000;");
    faulty(s, 1, 9, "heads of 00001=1;");
    faulty(s, 1, 2, "1 2=12;");
    faulty(s, 1, 5, "heads1=1;");
    good(s, "has1;");
  }

  /** Each byte ahead of a clause, and each behind one: few can stand there. */
  private static void everyByte(Sentences s) {
    Hall h = new Hall();
    for (int c = 0; c < 256; c++) {
      if (h.calls() > 480) h = new Hall();
      boolean blank = c == 32 || c == 10, digit = c >= '0' && c <= '9';
      String ahead = blank || digit ? "0 at -1" : c == '(' ? "1 at 4" : "1 at 0";
      fault(s, h, (char) c + "1=1;", ahead);
      boolean sum = c == '+' || c == '-' || c == '*';
      String behind = blank || digit ? "0 at -1" : sum ? "1 at 4" : c == ';' ? "1 at 4" : "1 at 3";
      fault(s, h, "1=1" + (char) c + ";", behind);
    }
    for (String sign : new String[] {"+", "-", "*", "<", "=", ">"}) good(s, "1" + sign + "1" + ("<=>".contains(sign) ? "" : "=1") + ";");
  }

  private static void blanksBetween(Sentences s) {
    good(s, "not(heads of 1+2*3>all or has 1);");
    good(s, " \n not \n ( \n heads \n of \n 1 \n + \n 2 \n * \n 3 \n > \n all \n or \n has \n 1 \n ) \n ; \n ");
    good(s, "1=1" + " ".repeat(396) + ";");
    good(s, "\n".repeat(396) + "1=1;");
    good(s, "1=1;" + " ".repeat(396));
    faulty(s, 1, 0, "he ads=1;");
    faulty(s, 1, 2, "1 1=1;");
    faulty(s, 1, 4, "1=1 1;");
    for (int c : new int[] {0, 1, 9, 11, 12, 13, 31, 33, 127, 128, 133, 160, 255}) {
      faulty(s, 1, 1, "1" + (char) c + "=1;");
      faulty(s, 1, 0, (char) c + "1=1;");
      faulty(s, 1, 4, "1=1;" + (char) c);
      faulty(s, 1, 0, "" + (char) c);
    }
  }

  private static void intsWrap(Sentences s) {
    Hall h = Hall.weighing(99);
    holds(s, h, 1, "256*256*256*256=0;", "2048*1024*1024<0;", "2048*1024*1024-1>0;", "2048*1024*1024=0-2048*1024*1024;", "2048*1024*1024+2048*1024*1024=0;",
      "2048*1024*1024-1+1<0;", "0-2048*1024*1024-1>0;", "9999*9999>0;", "9999*9999*9999<0;", "9999*9999*9999=0-1027*1000*1000-349*1000-969;",
      "weight*9999*9999=1308*1000*1000+85*1000+507;");
    fails(s, h, 1, "256*256*256*256>0;", "2048*1024*1024>0;", "0-2048*1024*1024>0;");
  }

  private static void firstFault(Sentences s) {
    faulty(s, 2, 4, "has 10 has 10;");
    faulty(s, 1, 0, "x has 10;");
    faulty(s, 2, 4, "has 10(((((((((");
    faulty(s, 1, 3, "1=1)has 10;");
    faulty(s, 3, 8, "(((((((((has 10;");
    faulty(s, 2, 12, "((((((((has 10(");
    faulty(s, 1, 8, "((((((((x(");
    faulty(s, 2, 9, "heads of 6 x");
    faulty(s, 3, 32, "not ".repeat(9) + "x");
  }

  private static void leastFault(Sentences s) {
    faulty(s, 1, 11, "((((((((1=1(;");
    faulty(s, 1, 12, "((((((((1=1 not 1=1;");
    faulty(s, 1, 9, "((((((((1(");
    faulty(s, 1, 10, "((((((((1=(1);");
    faulty(s, 1, 12, "((((((((has (1);");
    faulty(s, 1, 34, "not ".repeat(8) + "1=not 1;");
    faulty(s, 1, 4, "has 10000;");
    faulty(s, 1, 9, "heads of 66666=1;");
    faulty(s, 3, 8, "(((((((((");
  }

  private static void cannotStand(Sentences s) {
    for (String first : new String[] {"or", "and", "of", ";", "+", "-", "*", ")", "<", "=", ">", "x", "12345", "#"}) {
      faulty(s, 1, 0, first);
      faulty(s, 1, 4, "not " + first);
      faulty(s, 1, 1, "(" + first);
    }
    for (String next : new String[] {"or", "and", "of", ";", "+", "-", "*", ")", "<", "=", ">", "x", "12345", "#", "not", "has", "("}) {
      faulty(s, 1, 2, "1=" + next);
      faulty(s, 1, 2, "1+" + next);
      faulty(s, 1, 2, "1*" + next);
      faulty(s, 1, 4, "has " + next);
      faulty(s, 1, 9, "heads of " + next);
    }
    for (String next : new String[] {"of", ")", "<", "=", ">", "x", "1", "#", "not", "has", "(", "heads", "weight", "members", "all"}) {
      faulty(s, 1, 4, "1=1 " + next);
      faulty(s, 1, 6, "has 1 " + next);
      faulty(s, 1, 6, "(1=1) " + next);
    }
    for (String next : new String[] {"or", "and", ";", ")", "x", "1", "#", "not", "has", "(", "heads"}) faulty(s, 1, 6, "heads " + next);
    faulty(s, 1, 5, "has 1+1=1;");
    faulty(s, 1, 4, "(1=1;");
  }

  private static void endOfText(Sentences s) {
    for (String text : new String[] {"1", "1=", "1=1", "1+", "1*", "heads", "heads of", "heads of 1", "weight", "has", "has 1", "not", "(", "(1=1", "(1=1)", "1=1 or", "1=1 and", "members", "all"}) {
      faulty(s, 1, text.length(), text);
      faulty(s, 1, text.length() + 1, text + " ");
      faulty(s, 1, text.length() + 3, text + "\n\n ");
    }
    faulty(s, 1, 400, "1=1" + "+1".repeat(198) + "+");
    faulty(s, 1, 400, "1=1" + " ".repeat(397));
    Hall h = new Hall();
    h.type("1=1;").end(3);
    s.due("the end is that of the tape", h.rule(0), false);
    s.due("fault(1)", h.fault(1), 3);
    faulty(s, 1, 400, " ".repeat(393) + "1=heads");
    faulty(s, 1, 400, " ".repeat(394) + "1=9999");
  }

  private static void behindTheSemicolon(Sentences s) {
    for (String next : new String[] {";", "1=1;", "x", "(", ")", "or", "not", "12345", "#", "\0", "\t"}) {
      faulty(s, 1, 4, "1=1;" + next);
      faulty(s, 1, 6, "1=1; \n" + next);
    }
    faulty(s, 1, 399, "1=1;" + " ".repeat(395) + "1");
    good(s, "1=1;");
    good(s, "1=1; \n");
  }

  private static void noneSuch(Sentences s) {
    for (String n : new String[] {"10", "11", "99", "0010", "100", "9999"}) {
      faulty(s, 2, 4, "has " + n + ";");
      faulty(s, 2, 6, "has \n " + n);
      faulty(s, 2, 8, "not has " + n + ";");
    }
    for (String n : new String[] {"6", "7", "9", "10", "0006", "9999"}) {
      faulty(s, 2, 9, "heads of " + n + "=1;");
      faulty(s, 2, 10, "weight of " + n);
      faulty(s, 2, 12, "1=weight of " + n + ";");
    }
    good(s, "has 9;");
    good(s, "heads of 5=1;");
    good(s, "10=6;");
  }

  private static void ninthOpen(Sentences s) {
    Hall h = new Hall();
    holds(s, h, 0, "((((((((1=1))))))));", "not ".repeat(8) + "1=1;", "not(not(not(not(1=1))));", "(not ".repeat(4) + "1=1" + ")".repeat(4) + ";");
    faulty(s, 3, 8, "(((((((((1=1)))))))));");
    faulty(s, 3, 32, "not ".repeat(9) + "1=1;");
    faulty(s, 3, 16, "not(not(not(not(not 1=1))));");
    faulty(s, 3, 16, "not(not(not(not((1=1)))));");
    good(s, "(1=1)" + " and (1=1)".repeat(20) + ";");
    good(s, "not 1=1" + " or not 1=1".repeat(20) + ";");
    good(s, "not not not not not not not not has 1 and not not not not not not not not has 1;");
    good(s, "(((((((not has 1 or not has 2 and (1=1))))))));");
    good(s, "((((((((1=1)or(1=1))))))));");
    faulty(s, 3, 11, "(((((((not (1=1))))))));");
    faulty(s, 3, 19, "(((((((1=1 and not not 1=1");
    faulty(s, 3, 15, "((((((((1=1)or((");
    for (String text : new String[] {"(((((((((", "((((", "not not x", "not ".repeat(8)}) {
      Hall again = new Hall();
      again.type(text).rule(0);
      fault(s, again, "((((((((1=1))))))));", "0 at -1");
      fault(s, again, "not ".repeat(8) + "1=1;", "0 at -1");
    }
  }

  private static void headsAndWeight(Sentences s) {
    Hall h = Hall.weighing(99, 99, 99, 99, 99, 99, 99, 99, 99, 99);
    holds(s, h, 0, "heads=0;", "weight=0;");
    holds(s, h, 1023, "heads=10;", "weight=990;");
    holds(s, h, 512, "heads=1;", "weight=99;");
    Hall light = Hall.weighing(0, 0);
    holds(s, light, 3, "heads=2;", "weight=0;");
  }

  private static void membersAndAll(Sentences s) {
    Hall h = new Hall();
    holds(s, h, 0, "members=0;", "all=0;");
    for (int m = 0; m < 10; m++) h.member();
    holds(s, h, 0, "members=0;", "all=0;");
    for (int m = 0; m < 10; m++) h.shift(m, 0, 99, 0, 0);
    holds(s, h, 0, "members=10;", "all=990;");
    h.shift(4, 0, 99, -1, 0);
    holds(s, h, 1, "members=9;", "all=891;");
  }

  private static void ofABloc(Sentences s) {
    Hall h = Hall.weighing(1, 2, 4, 8, 16, 32, 64);
    holds(s, h, 65, "heads of 0=2;", "weight of 0=65;", "heads of 1=0;", "weight of 1=0;");
    holds(s, h, 1, "heads of 0=1;", "weight of 0=1;");
    holds(s, h, 0, "heads of 0=0;", "weight of 5=0;");
    holds(s, h, 127, "heads of 5=1;", "weight of 5=32;");
    h.shift(5, 0, 32, 0, 0);
    holds(s, h, 127, "heads of 5=0;", "weight of 5=0;", "heads of 0=3;", "weight of 0=97;");
  }

  private static void hasAMember(Sentences s) {
    Hall h = Hall.weighing(1, 1);
    holds(s, h, 1, "has 0;", "not has 1;", "not has 2;", "not has 9;");
    holds(s, h, 2, "has 1;", "not has 0;");
    fails(s, h, 0, "has 0;", "has 1;", "has 9;");
    Hall ten = Hall.ten();
    holds(s, ten, 512, "has 9;", "not has 8;", "not has 0;");
  }

  private static void oneOnlyAndItsEnd(Sentences s) {
    good(s, "1=1;");
    faulty(s, 1, 0, ";");
    faulty(s, 1, 3, "1=1");
    faulty(s, 1, 4, "1=1 1=1;");
    faulty(s, 1, 4, "1=1;1=1;");
    faulty(s, 1, 4, "1=1;;");
    faulty(s, 1, 0, ";1=1;");
  }

  private static void carriesIfSo(Sentences s) {
    Hall h = Hall.weighing(2, 1);
    for (int set = 0; set < 4; set++) {
      holds(s, h, set, "1=1;", "2>1 or 1=2;", "not 1=2;");
      fails(s, h, set, "1=2;", "1>1 and 1=1;", "not 1=1;");
    }
    int[] due = {0, 1, 0, 1};
    for (int set = 0; set < 4; set++) s.due("more than half of all, of set " + set, h.so("weight*2>all;", set), due[set]);
  }

  private static void howManyTheTapeHas(Sentences s) {
    Hall h = new Hall();
    for (int n : new int[] {0, 1, 19, 20, 21, 39, 40}) {
      h.end(0);
      for (int i = 0; i < 2; i++) h.feed(0, 0, 0, 0, 0);
      s.due("end(" + n + ")", h.end(n), true);
      s.due("feed behind " + n, h.feed(-1, -1, -1, -1, -1), n + 20);
    }
    h.rule(0);
    s.due("feed behind rule()", h.feed(0, 0, 0, 0, 0), 20);
  }

  private static void behindTheTape(Sentences s) {
    Hall h = new Hall();
    for (int n = 20; n <= 400; n += 20) s.due("feed", h.feed(0, 0, 0, 0, 0), n);
    s.due("end(7)", h.end(7), true);
    s.due("feed behind 7", h.feed(0, 0, 0, 0, 0), 27);
    h.end(0);
    s.due("feed", h.feed(0x68656164, 0x73206f66, 0x20302b31, 0x2b312b31, 0x2b312b31), 20);
    s.due("feed", h.feed(0x3e30206f, 0x72206861, 0x7320313b, 0x20202020, 0x0a0a0a0a), 40);
    s.due("heads of 0+1+1+1+1+1>0 or has 1;", h.rule(0), true);
    s.due("it is the whole", h.carries(0, 0), 1);
  }

  private static void highestByteFirst(Sentences s) {
    Hall h = new Hall();
    h.feed('1' << 24 | '=' << 16 | '1' << 8 | ';', 0x20202020, 0x20202020, 0x20202020, 0x20202020);
    s.due("1=1;", h.rule(0), true);
    h.feed(0x313d310a, 0x0a0a0a0a, 0x0a0a0a0a, 0x0a0a0a0a, 0x0a0a0a3b);
    s.due("the last byte", h.rule(0), true);
    h.feed(0x313d313b, 0x20202020, 0x20202020, 0x20202020, 0x202020ff);
    s.due("the last byte is 255", h.rule(0), false);
    s.due("its place", h.fault(1), 19);
    h.feed(0x313d313b, 0x20202020, 0x20202020, 0x20202020, 0x80202020);
    s.due("a number below 0", h.rule(0), false);
    s.due("its place", h.fault(1), 16);
    h.feed(0x313d313b, 0x20ff2020, -1, MIN_VALUE, MAX_VALUE);
    s.due("the second byte is 255", h.rule(0), false);
    s.due("its place", h.fault(1), 5);
  }

  private static void fullTape(Sentences s) {
    for (int length : new int[] {381, 390, 399, 400}) {
      Hall h = new Hall().type("1=1" + " ".repeat(length - 4) + ";");
      s.due("feed behind " + length, h.feed(-1, -1, -1, -1, -1), -1);
      s.due("feed behind " + length + " once more", h.feed(0, 0, 0, 0, 0), -1);
      s.due("it has no more", h.end(length + 1), false);
      s.due("it has as many", h.end(length), true);
      s.due("its bytes are the same", h.rule(0), true);
      s.due("its bytes are the same", h.carries(0, 0), 1);
    }
    Hall h = new Hall().type("1=1" + " ".repeat(377));
    s.due("feed behind 380", h.feed(0x20202020, 0x20202020, 0x20202020, 0x20202020, 0x2020203b), 400);
    s.due("all 400 bytes are read", h.rule(0), true);
  }

  private static void firstBytesAlone(Sentences s) {
    Hall h = new Hall();
    s.due("end(0) of an empty tape", h.end(0), true);
    h.type("1=1;1=1;1=1;1=1;1=1;");
    s.due("end(20) of 20", h.end(20), true);
    s.due("end(19)", h.end(19), true);
    s.due("20 are no more", h.end(20), false);
    s.due("end(4)", h.end(4), true);
    s.due("the first four", h.rule(0), true);
    h.type("1=1;?");
    s.due("end(0)", h.end(0), true);
    s.due("none is left", h.end(1), false);
    s.due("feed", h.feed(0, 0, 0, 0, 0), 20);
    h.end(1);
    s.due("feed behind one", h.feed(0, 0, 0, 0, 0), 21);
    h.end(0);
    for (int n = 20; n <= 400; n += 20) h.feed(0x20202020, 0x20202020, 0x20202020, 0x20202020, 0x20202020);
    s.due("end(400) of 400", h.end(400), true);
    s.due("end(401)", h.end(401), false);
    String[] cut = {"has 12;", "1=headsx", "1=1  ;", "1=1+", "1=heads of"};
    int[] at = {5, 7, 3, 3, 7};
    for (int i = 0; i < cut.length; i++) {
      Hall cutOff = new Hall().type(cut[i]);
      s.due("end(" + at[i] + ") of " + cut[i], cutOff.end(at[i]), true);
      s.due("what is behind is not read", cutOff.rule(0), false);
      s.due("fault(0)", cutOff.fault(0), 1);
      s.due("fault(1)", cutOff.fault(1), at[i]);
    }
  }

  private static void endThatCannotBe(Sentences s) {
    Hall h = Hall.busy();
    List<String> before = h.state();
    for (int n : new int[] {4, 5, 20, 400, 401, MAX_VALUE, -1, -2, MIN_VALUE}) s.due("end(" + n + ") of 3", h.end(n), false);
    s.same("ends that can't be", h.state(), before);
    s.due("its bytes are the same", h.tell(3, ";").carries(3, 0), 1);
    s.due("end(1) of an empty tape", h.end(1), false);
    s.due("end(-1) of an empty tape", h.end(-1), false);
  }

  private static void tapeEmptyThen(Sentences s) {
    Hall h = new Hall();
    for (int r = 0; r < 4; r++) {
      s.due("rule(" + r + ")", h.type("1=1;").rule(r), true);
      s.due("the tape is empty", h.end(1), false);
      s.due("carries", h.carries(r, 0), 1);
    }
    s.due("the empty tape is a rule too", h.rule(0), true);
    s.due("nothing carries", h.carries(0, 0), 0);
    s.due("the others stay", h.carries(3, 0), 1);
    s.due("feed", h.feed(0, 0, 0, 0, 0), 20);
    Hall full = new Hall().type("1=1;" + " ".repeat(396));
    s.due("a full tape", full.rule(3), true);
    s.due("is empty then", full.feed(0, 0, 0, 0, 0), 20);
  }

  private static void noSuchRule(Sentences s) {
    for (int r : new int[] {-1, 4, 32, MIN_VALUE, MAX_VALUE}) {
      Hall h = new Hall().tell(0, "1=1;").tell(1, "1=1;").tell(2, "1=1;").tell(3, "1=1;").type("1=2;");
      s.due("rule(" + r + ")", h.rule(r), false);
      for (int rule = 0; rule < 4; rule++) s.due("rule " + rule + " stays", h.carries(rule, 0), 1);
      s.due("the tape is empty", h.end(1), false);
      s.due("feed", h.feed(0, 0, 0, 0, 0), 20);
      s.due("of a faulty text", h.rule(r), false);
      s.due("of an empty text", h.rule(r), false);
      s.due("fault(0)", h.fault(0), 0);
    }
  }

  private static void faultyRuleStays(Sentences s) {
    for (String text : new String[] {";", "1=2", "1=2;;", "has 10;", "heads of 6=1;", "(((((((((1=2)))))))));", "x"}) {
      Hall h = new Hall().tell(2, "1=1;").type(text);
      s.due("rule() of " + text, h.rule(2), false);
      s.due("the rule stays", h.carries(2, 0), 1);
      s.due("so do its least sets", h.leasts(2, 0), 1);
      s.due("the tape is empty", h.end(1), false);
      s.due("feed", h.feed(0, 0, 0, 0, 0), 20);
    }
    for (String text : new String[] {"not 1=", "(1=1 and not (", "1=1 or 2*3+", "not not has 10;", "heads of"}) {
      Hall next = new Hall();
      next.type(text).rule(0);
      s.due("behind " + text + " a next one is read anew", next.so("1=1;", 0), 1);
      next.type(text).rule(0);
      s.due("behind " + text + " a next one is read anew", next.so("not 1=1;", 0), 0);
    }
    Hall h = new Hall();
    s.due("a fault of a rule that was empty", h.type("1=1").rule(1), false);
    s.due("it stays empty", h.carries(1, 0), 0);
  }

  private static void faultOfLatestRule(Sentences s) {
    Hall h = new Hall();
    h.type("has 10;").rule(0);
    s.due("fault(0)", h.fault(0), 2);
    s.due("fault(1)", h.fault(1), 4);
    for (int r : new int[] {-1, 4, MIN_VALUE, MAX_VALUE}) {
      h.type("1=1;").rule(r);
      s.due("behind rule(" + r + "): fault(0)", h.fault(0), 2);
      s.due("behind rule(" + r + "): fault(1)", h.fault(1), 4);
      h.type("x").rule(r);
      s.due("behind rule(" + r + ") of a fault: fault(0)", h.fault(0), 2);
      s.due("behind rule(" + r + ") of a fault: fault(1)", h.fault(1), 4);
    }
    h.type("1=1").rule(3);
    s.due("a fault of rule 3", h.fault(0), 1);
    s.due("a fault of rule 3", h.fault(1), 3);
    h.type("(((((((((").rule(0);
    s.due("a fault of rule 0", h.fault(0), 3);
    s.due("a fault of rule 0", h.fault(1), 8);
  }

  private static void withoutFault(Sentences s) {
    Hall h = new Hall();
    s.due("at first: fault(0)", h.fault(0), 0);
    s.due("at first: fault(1)", h.fault(1), -1);
    for (String text : new String[] {"1=1;", ""}) {
      h.type(";").rule(1);
      s.due("fault(0)", h.fault(0), 1);
      s.due("the first place", h.fault(1), 0);
      h.type(text).rule(1);
      s.due("behind a good one: fault(0)", h.fault(0), 0);
      s.due("behind a good one: fault(1)", h.fault(1), -1);
    }
    h.type("1=1;" + " ".repeat(395) + "x").rule(0);
    s.due("the last place", h.fault(1), 399);
    h.type(" ".repeat(399) + "1").rule(0);
    s.due("the end of a full tape", h.fault(1), 400);
  }

  private static void faultAnotherWhat(Sentences s) {
    Hall h = new Hall();
    for (String text : new String[] {"1=1;", "has 10;"}) {
      h.type(text).rule(0);
      for (int what : new int[] {-1, 2, 3, MIN_VALUE, MAX_VALUE}) s.due("fault(" + what + ")", h.fault(what), -1);
    }
  }

  private static void emptyAndFullCarry(Sentences s) {
    Hall h = Hall.ten().tell(0, "heads=0;").tell(1, "heads=10;");
    s.due("the empty set", h.carries(0, 0), 1);
    s.due("the full set", h.carries(0, 1023), 0);
    s.due("the empty set", h.carries(1, 0), 0);
    s.due("the full set", h.carries(1, 1023), 1);
    s.due("all but one", h.carries(1, 511), 0);
    for (int what = 0; what < 2; what++) h.leasts(what, 0);
    s.due("asked once more", h.carries(0, 0), 1);
    s.due("asked once more", h.carries(1, 1023), 1);
  }

  private static void carriesThatCannotBe(Sentences s) {
    Hall h = Hall.weighing(1, 1, 1).tell(0, "1=1;").tell(3, "1=1;");
    h.shift(1, 0, 1, -1, 0);
    for (int n = 0; n < 2; n++) {
      for (int r : new int[] {-1, 4, MIN_VALUE, MAX_VALUE}) s.due("carries(" + r + ", 0)", h.carries(r, 0), -1);
      for (int set : new int[] {2, 3, 6, 7, 8, 9, 512, 1024, 1 << 30, -1, MIN_VALUE, MAX_VALUE}) {
        s.due("carries(0, " + set + ")", h.carries(0, set), -1);
        s.due("carries(3, " + set + ")", h.carries(3, set), -1);
      }
      s.due("carries(0, 5)", h.carries(0, 5), 1);
      s.due("carries(3, 0)", h.carries(3, 0), 1);
      // once more, with a table of all sets behind it
      h.leasts(0, 0);
    }
  }
}
