/** One method a promise: what is usual, the edges that the document names, wrong inputs. */
public final class PromiseTest {
  private static final int MAX = Integer.MAX_VALUE;
  private static final int MIN = Integer.MIN_VALUE;

  public static void main(String[] args) {
    promise1();
    promise2();
    promise3();
    promise4();
    promise5();
    promise6();
    promise7();
    promise8();
    promise9();
    promise10();
    promise11();
    promise12();
    promise13();
    promise14();
    promise15();
    promise16();
    promise17();
    promise18();
    promise19();
    promise20();
    promise21();
    promise22();
    promise23();
    promise24();
    promise25();
    promise26();
    promise27();
    promise28();
    promise29();
    promise30();
    promise31();
    promise32();
    promise33();
    promise34();
    promise35();
    promise36();
    promise37();
    promise38();
    promise39();
    promise40();
    promise41();
    promise42();
    promise43();
    promise44();
    promise45();
    promise46();
    promise47();
    promise48();
    TestKit.finish("PromiseTest");
  }

  private static void due(String call, long got, long want) {
    TestKit.due(call, got, want);
  }

  /** Three names; 0: a, ab, bc; 1: 0, c; 2: abc; the others empty. */
  private static SharedBranch small() {
    return TestKit.withWorld("names 3; let 0 = {a, ab, bc}; let 1 = {0, c}; let 2 = {abc};");
  }

  private static void promise1() {
    SharedBranch x = new SharedBranch();
    due("1 count(0)", x.count(0), 0);
    due("1 count(3)", x.count(3), 0);
    due("1 count(6)", x.count(6), 0);
    due("1 size(0)", x.size(0), -2);
    due("1 net()", x.net(), -2);
    due("1 fault(0)", x.fault(0), 0);
    due("1 NONE", SharedBranch.NONE, -1);
  }

  private static void promise2() {
    SharedBranch x = new SharedBranch();
    // "names 2;let 1={ab};" and a blank, the highest byte first
    due("2 feed", x.feed(0x6e616d65, 0x7320323b, 0x6c657420, 0x313d7b61, 0x627d3b20), 20);
    due("2 world of what was fed", x.world(), 2);
    due("2 has ab", x.has(1, 3), 1);
    for (int i = 1; i <= 30; i++) {
      due("2 feed " + i, x.feed(-1, 0, MAX, MIN, 32), 20 * i);
    }
    due("2 feed beyond 600", x.feed(0, 0, 0, 0, 0), -1);
    due("2 none came", x.count(3), 600);
    x.end(581);
    due("2 feed to 601", x.feed(0, 0, 0, 0, 0), -1);
    x.end(580);
    due("2 feed to 600", x.feed(0, 0, 0, 0, 0), 600);
    x.end(3);
    due("2 feed behind 3", x.feed(0, 0, 0, 0, 0), 23);
  }

  private static void promise3() {
    SharedBranch x = new SharedBranch();
    due("3 end(0) of nothing", x.end(0), 0);
    due("3 end(1) of nothing", x.end(1), -1);
    x.feed(0, 0, 0, 0, 0);
    due("3 end(21)", x.end(21), -1);
    due("3 end(-1)", x.end(-1), -1);
    due("3 end(MIN)", x.end(MIN), -1);
    due("3 nothing happened", x.count(3), 20);
    due("3 end(20)", x.end(20), 20);
    due("3 end(7)", x.end(7), 7);
    due("3 end(8)", x.end(8), -1);
    due("3 seven bytes", x.count(3), 7);
  }

  private static void promise4() {
    SharedBranch x = new SharedBranch();
    due("4 world", TestKit.world(x, "names 10;\nweight a 99; weight j 0; edge 0 7; let 9 = {abcdefghij};"), 5);
    due("4 tape is empty then", x.count(3), 0);
    due("4 names", x.count(0), 10);
    due("4 weight(1)", x.weight(1), 99);
    due("4 weight(512)", x.weight(512), 0);
    due("4 has", x.has(9, 1023), 1);
    x.move(9, 0);
    due("4 faulty world", TestKit.world(x, "names 2; let 0 = {c};"), -4);
    due("4 tape is empty by a fault, too", x.count(3), 0);
    due("4 all stays: names", x.count(0), 10);
    due("4 all stays: lines", x.count(1), 5);
    due("4 all stays: edges", x.count(2), 1);
    due("4 all stays: a register", x.has(9, 1023), 1);
    due("4 all stays: the order", x.order(0), 9);
    due("4 another world", TestKit.world(x, "names 2;"), 1);
    due("4 registers are empty then", x.count(4), 0);
    due("4 weights are 1 then", x.weight(3), 2);
    due("4 no edges then", x.count(2), 0);
    due("4 order is a, b then", x.order(0), 0);
    TestKit.world(x, "names 2; weight a 3; weight a 4; let 0 = {a}; let 1 = 0 + {b}; let 0 = 1;");
    due("4 the later weight strikes", x.weight(1), 4);
    TestKit.told("4 a register is what it is then", x, 0, "a,b");
    TestKit.world(x, "names 3; let 0 = {a}; let 0 = {b} + 0; let 1 = 2;");
    TestKit.told("4 a register of itself", x, 0, "a,b");
    due("4 a register not yet told", x.size(1), 0);
    due("4 empty world", x.world(), 0);
    due("4 no world then", x.size(0), -2);
  }

  private static void promise5() {
    SharedBranch x = new SharedBranch();
    TestKit.feed(x, TestKit.bytesOf("{0}"));
    due("5 put without a world", x.put(0), -2);
    due("5 tape is empty by -2", x.count(3), 0);
    x = small();
    TestKit.feed(x, TestKit.bytesOf("{0}"));
    due("5 put(10)", x.put(10), -2);
    due("5 tape is empty by -2, too", x.count(3), 0);
    TestKit.feed(x, TestKit.bytesOf("{0}"));
    due("5 put(-1)", x.put(-1), -2);
    due("5 put", TestKit.put(x, 9, "0 + 1"), 5);
    due("5 tape is empty then", x.count(3), 0);
    due("5 put of itself", TestKit.put(x, 9, "9 - {a} + 2"), 5);
    due("5 faulty put", TestKit.put(x, 9, "9 +"), -4);
    due("5 tape is empty by a fault", x.count(3), 0);
    due("5 all stays", x.size(9), 5);
    sums();
    signs();
  }

  private static void putIs(String sum, String want) {
    SharedBranch x = small();
    TestKit.holds("5 put " + sum, TestKit.put(x, 5, sum) >= 0);
    TestKit.told("5 put " + sum, x, 5, want);
    TestKit.told("5 register 0 stays", x, 0, "a,ab,bc");
  }

  private static void sums() {
    putIs("{}", "");
    putIs("{0}", "0");
    putIs("{00}", "0");
    putIs("{ba,0 , a\n}", "0,a,ab");
    putIs("{a,a}", "a");
    putIs("all", "0,a,b,ab,c,ac,bc,abc");
    putIs("0 - {a} + {a}", "a,ab,bc");
    putIs("0 - ({a} + {ab})", "bc");
    putIs("{a} + {b} * {c}", "a,bc");
    putIs("({a} + {b}) * {c}", "ac,bc");
    putIs("{a} * {b} & {b}", "");
    putIs("{b} & {a} * {b}", "");
    putIs("{a} + {b} & {b}", "a,b");
    putIs("min 0 + {abc}", "a,bc,abc");
    putIs("min (0 + {abc})", "a,bc");
    putIs("max 0", "ab,bc");
    putIs("hit 0", "ab,ac");
    putIs("not 0", "0,b,c,ac,abc");
    putIs("up 0", "a,ab,ac,bc,abc");
    putIs("down 0", "0,a,b,ab,c,bc");
    putIs("not not not not not not 0", "a,ab,bc");
    putIs("((((((0))))))", "a,ab,bc");
    putIs("min down 0", "0");
    String deep = "{a}+{b}*{c}";
    for (int i = 0; i < 6; i++) {
      deep = "{a}+{b}*(" + deep + ")";
    }
    putIs(deep, "a,ab,bc");
  }

  private static void signs() {
    putIs("{ab,b,bc} / {b}", "0,a,c");
    putIs("{ab,ac,bc} / {b,c}", "a");
    putIs("0 / {}", "");
    putIs("{c,ac} / {0,a}", "c");
    putIs("{c,bc} / {0,a,b}", "");
    putIs("all / {0}", "0,a,b,ab,c,ac,bc,abc");
    putIs("0 / {a,bc}", "0");
    putIs("{ab,ac,bc} % {b,c}", "bc");
    putIs("0 % {}", "a,ab,bc");
    putIs("0 # {b}", "ab,bc");
    putIs("0 # {a,c}", "");
    putIs("all # {a,bc}", "ab,ac,abc");
    putIs("0 # {}", "a,ab,bc");
    putIs("0 # {0}", "");
    putIs("0 * {}", "");
    putIs("0 * {c,0}", "a,ab,ac,bc,abc");
    putIs("hit {}", "0");
    putIs("hit {0}", "");
    putIs("hit {abc}", "a,b,c");
  }

  private static void promise6() {
    SharedBranch x = new SharedBranch();
    due("6 fault(0) ahead of any", x.fault(0), 0);
    due("6 fault(1) ahead of any", x.fault(1), -1);
    due("6 fault(2)", x.fault(2), -1);
    due("6 fault(-1)", x.fault(-1), -1);
    TestKit.world(x, "names 3; let 0 = {a,d};");
    due("6 fault(0) of world", x.fault(0), 2);
    due("6 fault(1) of world", x.fault(1), 20);
    due("6 fault(2) with a fault", x.fault(2), -1);
    TestKit.put(x, 0, "{");
    due("6 put by -2 leaves it", x.fault(0), 2);
    TestKit.world(x, "names 3;");
    due("6 fault(0) without", x.fault(0), 0);
    due("6 fault(1) without", x.fault(1), -1);
    TestKit.put(x, 0, "0 + ?");
    due("6 fault(0) of put", x.fault(0), 1);
    due("6 fault(1) of put", x.fault(1), 4);
    x.put(11);
    due("6 put by -2 leaves that, too", x.fault(1), 4);
    x.put(3);
    due("6 an empty put", x.fault(0), 1);
    due("6 the end's place", x.fault(1), 0);
    TestKit.put(x, 0, "all");
    due("6 fault(0) of a fine put", x.fault(0), 0);
    due("6 fault(1) of a fine put", x.fault(1), -1);
  }

  private static void promise7() {
    SharedBranch x = small();
    due("7 size(0)", x.size(0), 3);
    due("7 size(9)", x.size(9), 0);
    due("7 size(10)", x.size(10), -2);
    due("7 size(-1)", x.size(-1), -2);
    due("7 size(MIN)", x.size(MIN), -2);
    SharedBranch ten = TestKit.withWorld("names 10; let 0 = all;");
    due("7 size of all", ten.size(0), 1024);
  }

  private static void promise8() {
    SharedBranch x = small();
    due("8 has", x.has(0, 3), 1);
    due("8 has not", x.has(0, 2), 0);
    due("8 the empty set", x.has(1, 0), 1);
    due("8 the last set", x.has(2, 7), 1);
    due("8 no such set", x.has(0, 8), -2);
    due("8 set below 0", x.has(0, -1), -2);
    due("8 no such register", x.has(10, 0), -2);
    due("8 MAX", x.has(0, MAX), -2);
    due("8 no world", new SharedBranch().has(0, 0), -2);
  }

  private static void promise9() {
    SharedBranch x = small();
    due("9 +", x.makes(5, 0, 0, 1), 5);
    TestKit.told("9 +", x, 5, "0,a,ab,c,bc");
    due("9 -", x.makes(5, 1, 5, 0), 2);
    TestKit.told("9 -", x, 5, "0,c");
    due("9 &", x.makes(5, 2, 5, 1), 2);
    due("9 *", x.makes(6, 3, 0, 1), 5);
    TestKit.told("9 *", x, 6, "a,ab,ac,bc,abc");
    due("9 /", x.makes(7, 4, 6, 1), 2);
    TestKit.told("9 /", x, 7, "a,ab");
    due("9 %", x.makes(8, 5, 6, 1), 1);
    TestKit.told("9 %", x, 8, "bc");
    due("9 # the empty set", x.makes(8, 6, 0, 1), 0);
    TestKit.put(x, 4, "{b}");
    due("9 #", x.makes(8, 6, 0, 4), 2);
    due("9 onto the second", x.makes(4, 3, 0, 4), 2);
    TestKit.told("9 onto the second", x, 4, "ab,bc");
    TestKit.told("9 the first stays", x, 0, "a,ab,bc");
    due("9 by itself", x.makes(0, 5, 0, 0), 0);
    due("9 what 7", x.makes(0, 7, 0, 0), -2);
    due("9 what -1", x.makes(0, -1, 0, 0), -2);
    due("9 to 10", x.makes(10, 0, 0, 0), -2);
    due("9 p -1", x.makes(0, 0, -1, 0), -2);
    due("9 q 10", x.makes(0, 0, 0, 10), -2);
    due("9 no world", new SharedBranch().makes(0, 0, 0, 0), -2);
  }

  private static void promise10() {
    SharedBranch x = small();
    due("10 min", x.turn(5, 0, 0), 2);
    TestKit.told("10 min", x, 5, "a,bc");
    due("10 max", x.turn(5, 1, 0), 2);
    TestKit.told("10 max", x, 5, "ab,bc");
    due("10 hit", x.turn(5, 2, 0), 2);
    TestKit.told("10 hit", x, 5, "ab,ac");
    due("10 not", x.turn(5, 3, 0), 5);
    due("10 up", x.turn(5, 4, 0), 5);
    due("10 down", x.turn(5, 5, 0), 6);
    due("10 itself", x.turn(5, 6, 0), 3);
    TestKit.told("10 itself", x, 5, "a,ab,bc");
    due("10 onto itself", x.turn(0, 3, 0), 5);
    due("10 not of none", x.turn(5, 3, 9), 8);
    due("10 hit of none", x.turn(5, 2, 9), 1);
    due("10 up of none", x.turn(5, 4, 9), 0);
    due("10 what 7", x.turn(0, 7, 0), -2);
    due("10 what -1", x.turn(0, -1, 0), -2);
    due("10 to 10", x.turn(10, 0, 0), -2);
    due("10 p 10", x.turn(0, 0, 10), -2);
    due("10 no world", new SharedBranch().turn(0, 0, 0), -2);
    SharedBranch ten = TestKit.withWorld("names 10; let 0 = {abcde,fghij};");
    due("10 hit of ten names", ten.turn(1, 2, 0), 25);
    due("10 up of ten names", ten.turn(2, 4, 0), 63);
    due("10 down of ten names", ten.turn(3, 5, 0), 63);
    due("10 not of ten names", ten.turn(4, 3, 0), 1022);
  }

  private static void promise11() {
    SharedBranch x = small();
    due("11 comes", x.sets(9, 5, true), 1);
    due("11 is of it", x.has(9, 5), 1);
    due("11 comes again", x.sets(9, 5, true), 0);
    due("11 still one", x.size(9), 1);
    due("11 goes", x.sets(9, 5, false), 1);
    due("11 goes again", x.sets(9, 5, false), 0);
    due("11 none left", x.size(9), 0);
    due("11 the empty set comes", x.sets(9, 0, true), 1);
    due("11 the empty set goes", x.sets(9, 0, false), 1);
    due("11 it is gone", x.has(9, 0), 0);
    due("11 no such set", x.sets(9, 8, true), -2);
    due("11 set -1", x.sets(9, -1, false), -2);
    due("11 no such register", x.sets(10, 0, true), -2);
    due("11 no world", new SharedBranch().sets(0, 0, true), -2);
  }

  private static void promise12() {
    SharedBranch x = small();
    due("12 change b", x.change(5, 0, 1), 3);
    TestKit.told("12 change b", x, 5, "a,ab,c");
    due("12 back again", x.change(5, 5, 1), 3);
    due("12 as it was", x.alike(0, 5), 1);
    due("12 no such name", x.change(5, 0, 3), -2);
    due("12 name -1", x.change(5, 0, -1), -2);
    due("12 to 10", x.change(10, 0, 0), -2);
    due("12 p -1", x.change(0, -1, 0), -2);
    SharedBranch ten = TestKit.withWorld("names 10; let 0 = {0,j,gh};");
    due("12 change j", ten.change(1, 0, 9), 3);
    TestKit.told("12 change j", ten, 1, "0,j,ghj");
    due("12 change g", ten.change(1, 0, 6), 3);
    TestKit.told("12 change g", ten, 1, "g,h,gj");
    due("12 no world", new SharedBranch().change(0, 0, 0), -2);
  }

  private static void promise13() {
    SharedBranch x = small();
    due("13 with b", x.half(5, 0, 1, true), 2);
    TestKit.told("13 with b, without it", x, 5, "a,c");
    due("13 without b", x.half(5, 0, 1, false), 1);
    TestKit.told("13 without b", x, 5, "a");
    due("13 no such name", x.half(5, 0, 3, true), -2);
    due("13 name -1", x.half(5, 0, -1, true), -2);
    due("13 to 10", x.half(10, 0, 0, true), -2);
    due("13 p 10", x.half(0, 10, 0, false), -2);
    SharedBranch ten = TestKit.withWorld("names 10; let 0 = {0,j,gh,aj};");
    due("13 with j", ten.half(1, 0, 9, true), 2);
    TestKit.told("13 with j", ten, 1, "0,a");
    due("13 without h", ten.half(1, 0, 7, false), 3);
    due("13 no world", new SharedBranch().half(0, 0, 0, true), -2);
  }

  private static void promise14() {
    SharedBranch x = small();
    due("14 two", x.level(5, 0, 2), 2);
    TestKit.told("14 two", x, 5, "ab,bc");
    due("14 none", x.level(5, 1, 0), 1);
    due("14 ten of three names", x.level(5, 0, 10), 0);
    due("14 eleven", x.level(5, 0, 11), -2);
    due("14 below 0", x.level(5, 0, -1), -2);
    due("14 to 10", x.level(10, 0, 1), -2);
    due("14 p 10", x.level(0, 10, 1), -2);
    SharedBranch ten = TestKit.withWorld("names 10; let 0 = all;");
    due("14 five of ten", ten.level(1, 0, 5), 252);
    due("14 ten of ten", ten.level(1, 0, 10), 1);
    due("14 no world", new SharedBranch().level(0, 0, 0), -2);
  }

  private static void promise15() {
    SharedBranch x = small();
    due("15 nth(0, 0)", x.nth(0, 0), 1);
    due("15 nth(0, 2)", x.nth(0, 2), 6);
    due("15 nth(0, 3)", x.nth(0, 3), -1);
    due("15 nth(0, -1)", x.nth(0, -1), -1);
    due("15 nth(0, MAX)", x.nth(0, MAX), -1);
    due("15 nth(0, MIN)", x.nth(0, MIN), -1);
    due("15 nth(10, 0)", x.nth(10, 0), -2);
    due("15 no world", new SharedBranch().nth(0, 0), -2);
    SharedBranch ten = TestKit.withWorld("names 10; let 0 = all;");
    due("15 nth(0, 1023)", ten.nth(0, 1023), 1023);
    due("15 nth(0, 64)", ten.nth(0, 64), 64);
    due("15 nth(0, 1024)", ten.nth(0, 1024), -1);
  }

  private static void promise16() {
    SharedBranch x = small();
    due("16 rank(0, 0)", x.rank(0, 0), 0);
    due("16 a set that is of it", x.rank(0, 3), 1);
    due("16 a set that is not", x.rank(0, 4), 2);
    due("16 the last set", x.rank(0, 7), 3);
    due("16 behind the empty set", x.rank(1, 1), 1);
    due("16 no such set", x.rank(0, 8), -2);
    due("16 set -1", x.rank(0, -1), -2);
    due("16 no such register", x.rank(10, 0), -2);
    SharedBranch ten = TestKit.withWorld("names 10; let 0 = all;");
    due("16 rank(0, 1023)", ten.rank(0, 1023), 1023);
    due("16 rank(0, 640)", ten.rank(0, 640), 640);
    due("16 no world", new SharedBranch().rank(0, 0), -2);
  }

  private static void promise17() {
    SharedBranch x = TestKit.withWorld("names 3; weight a 5; weight b 2; weight c 3; let 0 = all;");
    int[] due = {0, 2, 4, 1, 6, 3, 5, 7};
    for (int i = 0; i < 8; i++) {
      due("17 light(0, " + i + ")", x.light(0, i), due[i]);
    }
    due("17 light(0, 8)", x.light(0, 8), -1);
    due("17 light(0, -1)", x.light(0, -1), -1);
    due("17 light of none", x.light(1, 0), -1);
    due("17 light(10, 0)", x.light(10, 0), -2);
    x.weigh(0, 0);
    due("17 by a new weight", x.light(0, 1), 1);
    SharedBranch ten = TestKit.withWorld("names 10; let 0 = {abcdefghij, 0};");
    for (int name = 0; name < 10; name++) {
      ten.weigh(name, 99);
    }
    due("17 the heaviest", ten.light(0, 1), 1023);
    due("17 no world", new SharedBranch().light(0, 0), -2);
  }

  private static void promise18() {
    SharedBranch x = TestKit.withWorld("names 3; weight a 5; weight c 99;");
    due("18 weight(0)", x.weight(0), 0);
    due("18 weight(3)", x.weight(3), 6);
    due("18 weight(7)", x.weight(7), 105);
    due("18 weight(8)", x.weight(8), -2);
    due("18 weight(-1)", x.weight(-1), -2);
    due("18 no world", new SharedBranch().weight(0), -2);
  }

  private static void promise19() {
    SharedBranch x = small();
    due("19 weigh(0, 9)", x.weigh(0, 9), 1);
    due("19 weigh(0, 0)", x.weigh(0, 0), 9);
    due("19 weigh(0, 99)", x.weigh(0, 99), 0);
    due("19 weigh(0, 100)", x.weigh(0, 100), -2);
    due("19 weigh(0, -1)", x.weigh(0, -1), -2);
    due("19 weigh(3, 1)", x.weigh(3, 1), -2);
    due("19 weigh(-1, 1)", x.weigh(-1, 1), -2);
    due("19 it stands", x.weight(1), 99);
    due("19 no world", new SharedBranch().weigh(0, 0), -2);
  }

  private static void promise20() {
    SharedBranch x = TestKit.withWorld("names 3; weight a 5; weight b 2; let 0 = {a,ab,bc};");
    due("20 least", x.weighs(0, 0), 3);
    due("20 greatest", x.weighs(0, 1), 7);
    due("20 together", x.weighs(0, 2), 15);
    due("20 least of none", x.weighs(1, 0), -1);
    due("20 greatest of none", x.weighs(1, 1), -1);
    due("20 together of none", x.weighs(1, 2), 0);
    due("20 what 3", x.weighs(0, 3), -2);
    due("20 what -1", x.weighs(0, -1), -2);
    due("20 p 10", x.weighs(10, 2), -2);
    SharedBranch ten = TestKit.withWorld("names 10; let 0 = all;");
    for (int name = 0; name < 10; name++) {
      ten.weigh(name, 99);
    }
    due("20 all together", ten.weighs(0, 2), 512 * 990);
    due("20 no world", new SharedBranch().weighs(0, 2), -2);
  }

  private static void promise21() {
    SharedBranch x = small();
    due("21 a", x.each(0, 0), 2);
    due("21 b", x.each(0, 1), 2);
    due("21 c", x.each(0, 2), 1);
    due("21 of none", x.each(9, 0), 0);
    due("21 no such name", x.each(0, 3), -2);
    due("21 name -1", x.each(0, -1), -2);
    due("21 p 10", x.each(10, 0), -2);
    SharedBranch ten = TestKit.withWorld("names 10; let 0 = all;");
    due("21 j of all", ten.each(0, 9), 512);
    due("21 no world", new SharedBranch().each(0, 0), -2);
  }

  private static void promise22() {
    SharedBranch x = TestKit.withWorld("names 4; let 0 = {ab,b,bc}; let 1 = {a,ab,c,bc}; let 3 = all;");
    due("22 in all", x.names(0, 0), 2);
    due("22 in some", x.names(0, 1), 7);
    due("22 in all of none", x.names(2, 0), 15);
    due("22 in some of none", x.names(2, 1), 0);
    due("22 never other, of none", x.names(2, 2), 15);
    due("22 never other", x.names(1, 2), 2);
    due("22 never other of all", x.names(3, 2), 15);
    due("22 in all of all", x.names(3, 0), 0);
    due("22 what 3", x.names(0, 3), -2);
    due("22 what -1", x.names(0, -1), -2);
    due("22 p 10", x.names(10, 0), -2);
    due("22 no world", new SharedBranch().names(0, 0), -2);
  }

  private static void promise23() {
    SharedBranch x = TestKit.withWorld("names 3; let 0 = all; let 1 = {a,ab,bc};");
    // seed 0: 12345 / 65536 is 0; seed 1: 1103527590 / 65536 is 16838, 6 modulo 8, 2 modulo 3
    due("23 seed 0", x.draw(0, 0), 0);
    due("23 seed 1", x.draw(0, 1), 6);
    due("23 seed 1 of three", x.draw(1, 1), 6);
    // seed 2: 2207042835 - 2147483648 = 59559187 -> 908, 4 modulo 8, 2 modulo 3
    due("23 seed 2", x.draw(0, 2), 59559187 / 65536 % 8);
    due("23 seed 2e9", x.draw(0, 2000000000), (int) ((1103515245L * 2000000000L + 12345L) % 2147483648L / 65536L % 8L));
    due("23 seed 2e9 + 1", x.draw(0, 2000000001), -2);
    due("23 seed -1", x.draw(0, -1), -2);
    due("23 of none", x.draw(2, 5), -1);
    due("23 a wrong seed of none", x.draw(2, -1), -2);
    due("23 p 10", x.draw(10, 0), -2);
    due("23 no world", new SharedBranch().draw(0, 0), -2);
  }

  private static void promise24() {
    SharedBranch x = small();
    due("24 unlike", x.alike(0, 1), 0);
    due("24 itself", x.alike(0, 0), 1);
    due("24 empty ones", x.alike(8, 9), 1);
    x.turn(5, 6, 0);
    due("24 a like one", x.alike(0, 5), 1);
    due("24 p 10", x.alike(10, 0), -2);
    due("24 q -1", x.alike(0, -1), -2);
    due("24 no world", new SharedBranch().alike(0, 0), -2);
  }

  private static void promise25() {
    SharedBranch x = small();
    due("25 differ", x.differ(0, 1), 0);
    due("25 the other way", x.differ(1, 0), 0);
    due("25 of one alone", x.differ(0, 9), 1);
    due("25 of the other alone", x.differ(9, 2), 7);
    due("25 alike", x.differ(0, 0), -1);
    due("25 p 10", x.differ(10, 0), -2);
    due("25 q 10", x.differ(0, 10), -2);
    due("25 no world", new SharedBranch().differ(0, 0), -2);
  }

  private static void promise26() {
    SharedBranch x = small();
    TestKit.put(x, 5, "0 + 1");
    due("26 within", x.within(0, 5), 1);
    due("26 not within", x.within(5, 0), 0);
    due("26 none within", x.within(9, 0), 1);
    due("26 in none", x.within(0, 9), 0);
    due("26 itself", x.within(0, 0), 1);
    due("26 p 10", x.within(10, 0), -2);
    due("26 q -1", x.within(0, -1), -2);
    due("26 no world", new SharedBranch().within(0, 0), -2);
  }

  private static void promise27() {
    SharedBranch x = TestKit.withWorld(
        "names 3; let 0 = {ab,bc}; let 1 = {b,ac}; let 2 = {ab,bc,abc}; let 3 = {0}; let 5 = {ab,ac,bc};");
    due("27 dual", x.dual(0, 1), 1);
    due("27 the other way", x.dual(1, 0), 1);
    due("27 one way alone", x.dual(2, 1), 0);
    due("27 one way alone, turned", x.dual(1, 2), 0);
    due("27 none and the empty set", x.dual(4, 3), 1);
    due("27 its own", x.dual(5, 5), 1);
    due("27 none and none", x.dual(4, 4), 0);
    due("27 p 10", x.dual(10, 0), -2);
    due("27 q 10", x.dual(0, 10), -2);
    due("27 no world", new SharedBranch().dual(0, 0), -2);
  }

  private static void promise28() {
    SharedBranch x = small();
    // the empty set is apart from all three, c from a and ab
    due("28 apart", x.apart(0, 1), 5);
    due("28 the other way", x.apart(1, 0), 5);
    due("28 by itself", x.apart(1, 1), 3);
    due("28 of none", x.apart(0, 9), 0);
    SharedBranch ten = TestKit.withWorld("names 10; let 0 = all;");
    due("28 all of all", ten.apart(0, 0), 59049);
    due("28 p 10", x.apart(10, 0), -2);
    due("28 q -1", x.apart(0, -1), -2);
    due("28 no world", new SharedBranch().apart(0, 0), -2);
  }

  private static void promise29() {
    SharedBranch x = TestKit.withWorld("names 5; let 0 = {ab,bc,cd,a,d}; let 1 = {0}; let 2 = {0,a,b,ab};");
    due("29 fewest", x.packs(0, 0), 2);
    due("29 most", x.packs(0, 1), 3);
    due("29 fewest of the empty set", x.packs(1, 0), 0);
    due("29 the empty set counts", x.packs(1, 1), 1);
    due("29 one has all", x.packs(2, 0), 1);
    due("29 most with the empty set", x.packs(2, 1), 3);
    due("29 of none", x.packs(9, 0), -1);
    due("29 of none, what 1", x.packs(9, 1), -1);
    TestKit.put(x, 3, "{0,a,b,c,d,e,ab,ac,ad,ae,bc,bd}");
    due("29 twelve", x.packs(3, 0), 3);
    due("29 twelve, most", x.packs(3, 1), 6);
    x.sets(3, 31, true);
    due("29 thirteen", x.packs(3, 0), -3);
    due("29 thirteen, what 1", x.packs(3, 1), -3);
    due("29 what 2", x.packs(3, 2), -2);
    due("29 what -1 of none", x.packs(9, -1), -2);
    due("29 p 10", x.packs(10, 0), -2);
    due("29 no world", new SharedBranch().packs(0, 0), -2);
  }

  private static void promise30() {
    SharedBranch x = TestKit.withWorld("names 3; let 0 = {a,ab,bc}; let 1 = {0}; let 2 = all; let 3 = {a,b,c};");
    // {a,ab,bc} at a; {0,b} and {bc} at b; {c} at c
    due("30 nodes(0)", x.nodes(0), 4);
    due("30 of the empty set", x.nodes(1), 0);
    due("30 of all", x.nodes(2), 3);
    due("30 of single ones", x.nodes(3), 3);
    due("30 of none", x.nodes(9), 0);
    due("30 p 10", x.nodes(10), -2);
    due("30 no world", new SharedBranch().nodes(0), -2);
    SharedBranch six = TestKit.withWorld("names 6; let 0 = {0,ad} * {0,be} * {0,cf};");
    due("30 pairs far apart", six.nodes(0), 14);
  }

  private static void promise31() {
    SharedBranch x = TestKit.withWorld("names 3; let 0 = {a,ab,bc}; let 3 = {bc}; let 4 = 0;");
    due("31 {bc} is shared", x.net(), 4);
    TestKit.put(x, 5, "{c}");
    due("31 {c} is shared", x.net(), 4);
    TestKit.put(x, 5, "{b}");
    due("31 {b} is not", x.net(), 5);
    due("31 no world", new SharedBranch().net(), -2);
    // at a: {a,b}, {0,a}, {a}, whose halves are alike in part; at b: {b}, {0,b}
    SharedBranch y = TestKit.withWorld("names 2; let 0 = {a,b}; let 1 = {0,a}; let 2 = {a}; let 3 = {0,b};");
    due("31 of like halves", y.net(), 5);
    SharedBranch none = TestKit.withWorld("names 4;");
    due("31 of none", none.net(), 0);
  }

  private static void promise32() {
    SharedBranch x = small();
    due("32 at 0", x.wide(0, 0), 1);
    due("32 at 1", x.wide(0, 1), 2);
    due("32 at 2", x.wide(0, 2), 1);
    due("32 no such place", x.wide(0, 3), -2);
    due("32 place -1", x.wide(0, -1), -2);
    due("32 p 10", x.wide(10, 0), -2);
    due("32 of none", x.wide(9, 0), 0);
    x.move(2, 0);
    // by c, a, b: c; without c {a,ab} at a; {0,b} and, with c, {b} at b
    due("32 another order, at 1", x.wide(0, 1), 1);
    due("32 another order, at 2", x.wide(0, 2), 2);
    due("32 no world", new SharedBranch().wide(0, 0), -2);
  }

  private static void promise33() {
    SharedBranch x = small();
    due("33 order(0)", x.order(0), 0);
    due("33 order(2)", x.order(2), 2);
    due("33 order(3)", x.order(3), -2);
    due("33 order(-1)", x.order(-1), -2);
    x.swap(0);
    due("33 order(0) then", x.order(0), 1);
    due("33 no world", new SharedBranch().order(0), -2);
  }

  private static void promise34() {
    SharedBranch x = TestKit.withWorld("names 4; let 0 = {0,ac} * {0,bd};");
    due("34 nodes at first", x.nodes(0), 6);
    due("34 swap(1)", x.swap(1), 4);
    due("34 order(1)", x.order(1), 2);
    due("34 order(2)", x.order(2), 1);
    due("34 the same set", x.has(0, 15), 1);
    due("34 swap(1) back", x.swap(1), 6);
    due("34 the last two", x.swap(2), 6);
    due("34 order(3)", x.order(3), 2);
    due("34 the last two back", x.swap(2), 6);
    due("34 no next one", x.swap(3), -2);
    due("34 no such place", x.swap(4), -2);
    due("34 place -1", x.swap(-1), -2);
    due("34 place MAX", x.swap(MAX), -2);
    due("34 order stays", x.order(1), 1);
    due("34 no world", new SharedBranch().swap(0), -2);
    SharedBranch two = TestKit.withWorld("names 3; let 0 = {a}; let 1 = {b}; let 2 = {ab};");
    due("34 of all registers", two.swap(0), 3);
    due("34 one name", TestKit.withWorld("names 1;").swap(0), -2);
  }

  private static void promise35() {
    SharedBranch x = TestKit.withWorld("names 4;");
    due("35 a to 2", x.move(0, 2), 0);
    due("35 b first", x.order(0), 1);
    due("35 c second", x.order(1), 2);
    due("35 a third", x.order(2), 0);
    due("35 d last", x.order(3), 3);
    due("35 d to 0", x.move(3, 0), 3);
    due("35 then b", x.order(1), 1);
    due("35 where it is", x.move(3, 0), 0);
    due("35 no such name", x.move(4, 0), -2);
    due("35 no such place", x.move(0, 4), -2);
    due("35 name -1", x.move(-1, 0), -2);
    due("35 place -1", x.move(0, -1), -2);
    due("35 no world", new SharedBranch().move(0, 0), -2);
  }

  private static void promise36() {
    SharedBranch x = TestKit.withWorld("names 6; let 0 = {0,ad} * {0,be} * {0,cf};");
    due("36 fewest", x.best(0, 0), 6);
    int[] first = {0, 3, 1, 4, 2, 5};
    for (int k = 0; k < 6; k++) {
      due("36 place " + k, x.best(0, k + 1), first[k]);
    }
    due("36 no such place", x.best(0, 7), -1);
    due("36 place 9", x.best(0, 10), -1);
    due("36 what 11", x.best(0, 11), -2);
    due("36 what -1", x.best(0, -1), -2);
    due("36 p 10", x.best(10, 0), -2);
    due("36 of none", x.best(9, 0), 0);
    due("36 first order of none", x.best(9, 1), 0);
    due("36 the order stays", x.order(1), 1);
    x.move(5, 0);
    due("36 by no matter which order", x.best(0, 0), 6);
    SharedBranch seven = TestKit.withWorld("names 7;");
    due("36 seven names", seven.best(0, 0), -3);
    due("36 seven names, a place", seven.best(0, 10), -3);
    due("36 seven names, what 11", seven.best(0, 11), -2);
    due("36 seven names, p 10", seven.best(10, 0), -2);
    due("36 one name", TestKit.withWorld("names 1; let 0 = {a};").best(0, 0), 1);
    due("36 no world", new SharedBranch().best(0, 0), -2);
  }

  private static void promise37() {
    SharedBranch x = TestKit.withWorld("names 6; let 0 = {0,ad} * {0,be} * {0,cf};");
    due("37 sift", x.sift(0), 6);
    due("37 the order is so then", x.nodes(0), 6);
    // a stays at 0, all its places giving 6. b goes behind c (a c b d gives 4), c to the head
    // (c a b d gives 4, too, and is the first), d between a and b (c a d b).
    SharedBranch y = TestKit.withWorld("names 4; let 0 = {0,ac} * {0,bd};");
    due("37 sift of two pairs", y.sift(0), 4);
    int[] order = {2, 0, 3, 1};
    for (int k = 0; k < 4; k++) {
      due("37 place " + k, y.order(k), order[k]);
    }
    due("37 of none", x.sift(9), 0);
    due("37 p 10", x.sift(10), -2);
    due("37 p -1", x.sift(-1), -2);
    due("37 no world", new SharedBranch().sift(0), -2);
    SharedBranch z = TestKit.withWorld("names 3;");
    z.sift(0);
    // all places are alike, so each goes to the first one: a, b, c to the head in turn
    due("37 the first of several", z.order(0), 2);
    due("37 the first of several, then", z.order(1), 1);
  }

  private static void promise38() {
    // a square 0 1 2 3 with a bridge 1 3, and a crossing 4 that hangs on 0
    SharedBranch x = TestKit.withWorld("names 7; edge 0 1; edge 1 2; edge 2 3; edge 3 0; edge 1 3; edge 0 4;");
    due("38 ways", x.ways(0, 0, 2), 4);
    TestKit.told("38 ways", x, 0, "ab,cd,ace,bde");
    due("38 the other way round", x.ways(1, 2, 0), 4);
    due("38 the same ones", x.alike(0, 1), 1);
    due("38 from 4", x.ways(0, 4, 2), 4);
    due("38 one crossing", x.ways(0, 3, 3), 1);
    TestKit.told("38 the empty set", x, 0, "0");
    due("38 a crossing alone", x.ways(0, 6, 6), 1);
    due("38 no way", x.ways(0, 0, 7), 0);
    due("38 from 8", x.ways(0, 8, 0), -2);
    due("38 till -1", x.ways(0, 0, -1), -2);
    due("38 to 10", x.ways(10, 0, 1), -2);
    due("38 no world", new SharedBranch().ways(0, 0, 0), -2);
    SharedBranch y = TestKit.withWorld("names 2; edge 0 1; edge 1 0;");
    due("38 two edges side by side", y.ways(0, 0, 1), 2);
    TestKit.told("38 two edges side by side", y, 0, "a,b");
  }

  private static void promise39() {
    SharedBranch x = TestKit.withWorld("names 6; edge 0 1; edge 1 2; edge 2 3; edge 3 0; edge 1 3;");
    due("39 trees", x.map(0, 0), 8);
    due("39 trees have three edges", x.level(1, 0, 3), 8);
    due("39 not the name without an edge", x.each(0, 5), 0);
    due("39 pairs", x.map(0, 1), 8);
    TestKit.told("39 pairs", x, 0, "0,a,b,c,ac,d,bd,e");
    due("39 covers", x.map(0, 2), covers());
    due("39 what 3", x.map(0, 3), -2);
    due("39 what -1", x.map(0, -1), -2);
    due("39 to 10", x.map(10, 0), -2);
    due("39 no world", new SharedBranch().map(0, 0), -2);
    SharedBranch y = TestKit.withWorld("names 2;");
    due("39 trees without edges", y.map(0, 0), 1);
    due("39 pairs without edges", y.map(0, 1), 1);
    due("39 covers without edges", y.map(0, 2), 1);
    due("39 the empty set", y.has(0, 0), 1);
    SharedBranch z = TestKit.withWorld("names 2; edge 0 1; edge 2 3;");
    due("39 no tree of two lands", z.map(0, 0), 0);
    due("39 pairs of two lands", z.map(0, 1), 4);
    due("39 covers of two lands", z.map(0, 2), 1);
    SharedBranch k = TestKit.withWorld("names 3; edge 0 1; edge 1 0; edge 1 2;");
    due("39 trees of side by side", k.map(0, 0), 2);
    TestKit.told("39 trees of side by side", k, 0, "ac,bc");
  }

  /** Of 32 sets of the square with a bridge: crossings 0 and 2 need one of ad and of bc, 1 of abe, 3 of cde. */
  private static int covers() {
    int many = 0;
    for (int s = 0; s < 32; s++) {
      if ((s & 9) != 0 && (s & 6) != 0 && (s & 19) != 0 && (s & 28) != 0) {
        many++;
      }
    }
    return many;
  }

  private static void promise40() {
    SharedBranch x = TestKit.withWorld("names 6; edge 0 1; edge 1 2; edge 2 3; edge 3 0; edge 1 3;");
    due("40 cuts", x.cuts(0, 0, 2), 4);
    TestKit.told("40 cuts", x, 0, "bc,ad,ace,bde");
    due("40 no way: the empty set", x.cuts(0, 0, 7), 1);
    due("40 it is", x.has(0, 0), 1);
    due("40 one crossing: none", x.cuts(0, 2, 2), 0);
    due("40 from 8", x.cuts(0, 8, 0), -2);
    due("40 till -1", x.cuts(0, 0, -1), -2);
    due("40 to -1", x.cuts(-1, 0, 1), -2);
    due("40 no world", new SharedBranch().cuts(0, 0, 1), -2);
  }

  private static void promise41() {
    SharedBranch x = small();
    due("41 nothing", x.judge(0, 0), -6);
    x.row(0, 3, 3);
    x.write(0, 0, 1);
    x.write(0, 1, 3);
    x.write(0, 2, 6);
    due("41 all along", x.judge(0, 0), 3);
    due("41 the first place", x.judge(0, 2), 0);
    x.write(0, 1, 2);
    due("41 the second place", x.judge(0, 0), 1);
    x.write(0, 1, 3 + (1L << 32));
    due("41 a number far above", x.judge(0, 0), 1);
    x.row(1, 0, 2);
    x.write(1, 0, 1);
    x.write(1, 1, 3);
    due("41 the register has more", x.judge(1, 0), -1);
    x.row(1, 0, 2);
    due("41 the register has fewer", x.judge(1, 9), 0);
    x.sets(9, 0, true);
    due("41 the register has one of two", x.judge(1, 9), 1);
    x.row(2, 0, 0);
    due("41 an empty row and register", x.judge(2, 8), 0);
    due("41 an empty row", x.judge(2, 0), -1);
    due("41 an empty row, the empty set", x.judge(2, 9), -1);
    x.row(2, 0, 2);
    x.write(2, 1, 1);
    x.sets(9, 1, true);
    due("41 neighbours", x.judge(2, 9), 2);
    due("41 slot 4", x.judge(4, 0), -2);
    due("41 slot -1", x.judge(-1, 0), -2);
    due("41 p 10", x.judge(0, 10), -2);
    due("41 p 10 of nothing", x.judge(3, 10), -2);
    due("41 no world", new SharedBranch().judge(0, 0), -2);
  }

  private static void promise42() {
    SharedBranch x = small();
    due("42 nothing", x.takes(0, 0), -6);
    x.row(0, 0, 4);
    x.write(0, 0, 7);
    x.write(0, 1, 2);
    x.write(0, 2, 7);
    due("42 takes", x.takes(9, 0), 3);
    TestKit.told("42 takes", x, 9, "0,b,abc");
    x.write(0, 3, 8);
    due("42 no set", x.takes(9, 0), -2);
    due("42 it stays", x.size(9), 3);
    x.write(0, 3, -1);
    due("42 below 0", x.takes(9, 0), -2);
    x.write(0, 3, 255);
    due("42 255 in one byte is -1", x.takes(9, 0), -2);
    x.write(0, 3, 256 + 5);
    due("42 cut to its width", x.takes(9, 0), 3);
    TestKit.told("42 cut to its width", x, 9, "b,ac,abc");
    x.row(1, 3, 1);
    x.write(1, 0, 1L << 32);
    due("42 a number far above", x.takes(9, 1), -2);
    x.row(1, 0, 0);
    due("42 an empty row", x.takes(9, 1), 0);
    due("42 slot 4", x.takes(0, 4), -2);
    due("42 to 10", x.takes(10, 0), -2);
    due("42 to 10 of nothing", x.takes(10, 3), -2);
    due("42 no world", new SharedBranch().takes(0, 0), -2);
  }

  private static void promise43() {
    SharedBranch x = TestKit.withWorld("names 5; edge 1 2; let 0 = {a}; let 3 = {a}; let 9 = {b};");
    due("43 names", x.count(0), 5);
    due("43 lines", x.count(1), 5);
    due("43 edges", x.count(2), 1);
    due("43 bytes", x.count(3), 0);
    x.feed(0, 0, 0, 0, 0);
    due("43 bytes of a feed", x.count(3), 20);
    due("43 not empty", x.count(4), 1 + 8 + 512);
    due("43 unlike", x.count(5), 3);
    due("43 slots", x.count(6), 0);
    x.row(3, 1, 0);
    x.row(1, 1, 5);
    due("43 slots then", x.count(6), 2);
    due("43 what 7", x.count(7), -1);
    due("43 what -1", x.count(-1), -1);
    due("43 unlike of none", TestKit.withWorld("names 1;").count(5), 1);
    due("43 unlike without a world", new SharedBranch().count(5), 0);
    SharedBranch ten = TestKit.withWorld("names 4; let 0={0}; let 1={a}; let 2={b}; let 3={c}; let 4={d};"
        + "let 5={ab}; let 6={ac}; let 7={ad}; let 8={bc}; let 9={bd};");
    due("43 ten unlike", ten.count(5), 10);
  }

  private static void promise44() {
    SharedBranch x = small();
    due("44 keep(0)", x.keep(0), 0);
    due("44 keep(2)", x.keep(2), 0);
    due("44 keep(3)", x.keep(3), -2);
    due("44 keep(-1)", x.keep(-1), -2);
    due("44 nothing is other by it", x.size(0), 3);
    due("44 without a world", new SharedBranch().keep(1), 0);
  }

  private static void promise45() {
    SharedBranch x = TestKit.withWorld("names 3; weight a 7; edge 0 1; let 0 = {a,ab,bc};");
    due("45 nothing", x.back(1), -6);
    due("45 no such", x.back(3), -2);
    due("45 back(-1)", x.back(-1), -2);
    x.move(0, 2);
    x.keep(1);
    x.sets(0, 0, true);
    x.weigh(0, 1);
    x.move(0, 0);
    x.row(0, 0, 2);
    TestKit.world(x, "names 5; edge 0 2; edge 1 2;");
    TestKit.put(x, 0, "?");
    x.feed(0, 0, 0, 0, 0);
    due("45 back", x.back(1), 0);
    due("45 names", x.count(0), 3);
    due("45 lines", x.count(1), 4);
    due("45 edges", x.count(2), 1);
    due("45 the edge", x.ways(9, 0, 1), 1);
    due("45 weights", x.weight(1), 7);
    due("45 order", x.order(2), 0);
    TestKit.told("45 a register", x, 0, "a,ab,bc");
    due("45 not the tape", x.count(3), 20);
    due("45 not the fault", x.fault(0), 1);
    due("45 not the slots", x.count(6), 1);
    x.sets(0, 0, true);
    due("45 the image stays", x.back(1), 0);
    due("45 as it was kept", x.has(0, 0), 0);
    SharedBranch y = new SharedBranch();
    y.keep(0);
    TestKit.world(y, "names 2;");
    due("45 back to no world", y.back(0), 0);
    due("45 no world then", y.size(0), -2);
  }

  private static void promise46() {
    SharedBranch x = small();
    due("46 row", x.row(0, 0, 60), 0);
    due("46 row of none", x.row(3, 3, 0), 0);
    due("46 61", x.row(0, 0, 61), -2);
    due("46 slot 4", x.row(4, 0, 1), -2);
    due("46 slot -1", x.row(-1, 0, 1), -2);
    due("46 width 4", x.row(0, 4, 1), -2);
    due("46 width -1", x.row(0, -1, 1), -2);
    due("46 below 0", x.row(0, 0, -1), -3);
    due("46 below 0, no such slot", x.row(4, 0, -1), -2);
    due("46 below 0, no such width", x.row(0, 9, -1), -2);
    due("46 MIN", x.row(1, 0, MIN), -3);
    due("46 the slot stays", x.write(0, 59, 5), 0);
    due("46 slot 1 has nothing", x.write(1, 0, 0), -6);
    x.row(0, 0, 60);
    x.row(1, 0, 1);
    x.paste(0, 59, 1, 0, 1);
    due("46 all 0 again", x.takes(9, 1), 1);
    due("46 the number is 0", x.has(9, 0), 1);
  }

  private static void promise47() {
    SharedBranch x = TestKit.withWorld("names 10;");
    due("47 nothing", x.write(0, 0, 1), -6);
    x.row(0, 0, 2);
    due("47 slot 4", x.write(4, 0, 1), -2);
    due("47 slot -1", x.write(-1, 0, 1), -2);
    due("47 number 2", x.write(0, 2, 1), -7);
    due("47 number -1", x.write(0, -1, 1), -7);
    due("47 write", x.write(0, 1, 0x1105), 0);
    x.takes(0, 0);
    TestKit.told("47 one byte", x, 0, "0,ac");
    x.row(0, 1, 1);
    x.write(0, 0, 0x10205L);
    x.takes(0, 0);
    due("47 two bytes", x.has(0, 0x205), 1);
    x.row(0, 2, 1);
    x.write(0, 0, 0x100000205L);
    x.takes(0, 0);
    due("47 four bytes", x.has(0, 0x205), 1);
    x.row(0, 2, 1);
    x.write(0, 0, 0x10205L);
    due("47 four bytes keep it", x.takes(0, 0), -2);
    x.row(0, 3, 1);
    x.write(0, 0, 0x100000205L);
    due("47 eight bytes keep it", x.takes(0, 0), -2);
    x.row(0, 3, 0);
    due("47 an empty row", x.write(0, 0, 1), -7);
  }

  private static void promise48() {
    SharedBranch x = TestKit.withWorld("names 10; let 0 = {0,a,b,ab,c};");
    due("48 nothing", x.paste(0, 0, 1, 0, 0), -6);
    x.row(0, 1, 5);
    for (int i = 0; i < 5; i++) {
      x.write(0, i, i);
    }
    due("48 the other has nothing", x.paste(0, 0, 1, 0, 1), -6);
    due("48 the one has nothing", x.paste(1, 0, 0, 0, 1), -6);
    x.row(1, 2, 3);
    due("48 unlike widths", x.paste(0, 0, 1, 0, 1), -8);
    due("48 unlike widths first", x.paste(0, 9, 1, 0, -1), -8);
    x.row(1, 1, 3);
    due("48 paste", x.paste(0, 2, 1, 1, 2), 0);
    x.takes(9, 1);
    TestKit.told("48 pasted", x, 9, "0,b,ab");
    due("48 as they were, upwards", x.paste(0, 0, 0, 1, 4), 0);
    x.write(0, 0, 9);
    rowIs(x, new int[] {9, 0, 1, 2, 3});
    due("48 as they were, downwards", x.paste(0, 1, 0, 0, 4), 0);
    rowIs(x, new int[] {0, 1, 2, 3, 3});
    due("48 none at the end", x.paste(0, 5, 1, 3, 0), 0);
    due("48 beyond the one", x.paste(0, 4, 1, 0, 2), -7);
    due("48 beyond the other", x.paste(0, 0, 1, 2, 2), -7);
    due("48 beyond the end", x.paste(0, 6, 1, 0, 0), -7);
    due("48 place -1", x.paste(0, -1, 1, 0, 1), -7);
    due("48 other place -1", x.paste(0, 0, 1, -1, 1), -7);
    due("48 n -1", x.paste(0, 0, 1, 0, -1), -7);
    due("48 MAX", x.paste(0, MAX, 1, MAX, MAX), -7);
    rowIs(x, new int[] {0, 1, 2, 3, 3});
    due("48 slot 4", x.paste(4, 0, 1, 0, 1), -2);
    due("48 to 4", x.paste(0, 0, 4, 0, 1), -2);
    due("48 to -1", x.paste(0, 0, -1, 0, 1), -2);
  }

  private static void rowIs(SharedBranch x, int[] row) {
    x.row(3, 1, 1);
    for (int i = 0; i < row.length; i++) {
      x.paste(0, i, 3, 0, 1);
      x.takes(8, 3);
      due("48 number " + i, x.nth(8, 0), row[i]);
    }
  }
}
