/** The sentences of promises 1 to 29 that name a boundary case, each with a test of its own. */
public final class FamilySentencesTest {
  private static final int MAX = Integer.MAX_VALUE;
  private static final int MIN = Integer.MIN_VALUE;

  public static void main(String[] args) {
    promise1();
    promises2And3();
    promise4();
    promise5();
    promise6();
    promises7And8();
    promise9();
    promise10();
    promise11();
    promise12();
    promise13();
    promise14();
    promises15And16();
    promises17And18();
    promises19And20();
    promises21And22();
    promise23();
    promises24And25();
    promises26To28();
    promise29();
    SentenceKit.finish("FamilySentencesTest");
  }

  private static void sentence(String quote, Runnable test) {
    SentenceKit.sentence(quote, test);
  }

  private static void due(String call, long got, long want) {
    TestKit.due(call, got, want);
  }

  private static void asks(String label, int want, StateKit.Call call) {
    StateKit.asks(label, want, call);
  }

  private static void noWorld(StateKit.Call call) {
    StateKit.asksBare("-2", -2, call);
  }

  private static void refuses(StateKit.Call... calls) {
    StateKit.refuses(-2, calls);
  }

  private static SharedBranch world(String text) {
    return TestKit.withWorld(text);
  }

  private static SharedBranch ten() {
    return world("names 10; let 0 = all;");
  }

  private static void promise1() {
    SentenceKit.promise(1);
    sentence("No WORLD", () -> {
      SharedBranch x = new SharedBranch();
      for (int what = 0; what < 7; what++) {
        due("count(" + what + ")", x.count(what), 0);
      }
      due("count(7)", x.count(7), -1);
      for (int k = 0; k < 3; k++) {
        due("image " + k, x.back(k), -6);
      }
      for (int slot = 0; slot < 4; slot++) {
        due("slot " + slot, x.write(slot, 0, 0), -6);
      }
      due("net()", x.net(), -2);
      due("fault(0)", x.fault(0), 0);
      due("fault(1)", x.fault(1), -1);
    });
  }

  /** 600 bytes: 29 times 20 blanks, then a text. */
  private static SharedBranch fullTape() {
    SharedBranch x = new SharedBranch();
    TestKit.feed(x, " ".repeat(580) + "names 2;let 1={ab}; ");
    return x;
  }

  private static void promises2And3() {
    SentenceKit.promise(2);
    sentence("Twenty bytes come behind the TAPE, four of each number, the highest first: how many it has", () -> {
      SharedBranch x = new SharedBranch();
      due("the first twenty", x.feed(0x6e616d65, 0x73203130, 0x3b6c6574, 0x20303d7b, 0x6162632c), 20);
      due("the next twenty", x.feed(0x64656667, 0x68696a7d, 0x3b202020, 0x20202020, 0x20202020), 40);
      due("names 10;let 0={abc,defghij};", x.world(), 2);
      TestKit.told("the sets", x, 0, "abc,defghij");
      due("on an empty tape again", x.feed(-1, MIN, MAX, 0, 1), 20);
      due("its first byte is 255", x.world(), -4);
      due("that is no token", x.fault(1), 0);
      // 0x20 in the highest byte of b alone: the other three are 0
      x.feed(0x20202020, 0x20000000, 0, 0, 0);
      due("blanks, then a byte 0", x.world(), -4);
      due("at 5", x.fault(1), 5);
      x.feed(0x20202020, 0x20202020, 0x20202020, 0x20202020, 0x20202080);
      due("a byte 128 at the end", x.world(), -4);
      due("at 19", x.fault(1), 19);
    });
    sentence("NONE, and none come, if it would have more than 600", () -> {
      SharedBranch x = fullTape();
      due("600 bytes", x.count(3), 600);
      due("twenty more", x.feed(0, 0, 0, 0, 0), -1);
      due("again", x.feed(0, 0, 0, 0, 0), -1);
      due("still 600", x.count(3), 600);
      due("as they were", x.world(), 2);
      SharedBranch y = fullTape();
      y.end(581);
      due("581 and twenty", y.feed(0, 0, 0, 0, 0), -1);
      due("still 581", y.count(3), 581);
      y.end(580);
      due("580 and twenty", y.feed(0x20202020, 0x20202020, 0x20202020, 0x20202020, 0x20202020), 600);
      due("blanks alone", y.world(), 0);
      SharedBranch z = StateKit.full();
      z.end(0);
      for (int i = 1; i <= 30; i++) {
        due("feed " + i, z.feed(i, i, i, i, i), 20 * i);
      }
      due("the 31st", z.feed(0, 0, 0, 0, 0), -1);
    });
    SentenceKit.promise(3);
    sentence("The TAPE has its first n bytes alone: n", () -> {
      SharedBranch x = new SharedBranch();
      due("none of none", x.end(0), 0);
      TestKit.feed(x, "names 2;let 1={ab};?");
      due("all", x.end(20), 20);
      due("all but one", x.end(19), 19);
      due("it is cut", x.world(), 2);
      TestKit.feed(x, "names 5;let 1={ab};?");
      due("eight", x.end(8), 8);
      due("eight are there", x.count(3), 8);
      due("behind them", x.feed(0x6c657420, 0x303d7b61, 0x2c627d3b, 0x20202020, 0x20202020), 28);
      due("names 5;let 0={a,b};", x.world(), 2);
      due("five names", x.count(0), 5);
      TestKit.feed(x, "?");
      due("none", x.end(0), 0);
      due("nothing to read", x.world(), 0);
      // what was behind the cut is no part of the last word or number
      SharedBranch y = world("names 3; let 1 = {a};");
      TestKit.feed(y, "12");
      y.end(1);
      due("12, cut to 1", y.put(0), 1);
      TestKit.feed(y, "allx");
      y.end(3);
      due("allx, cut to all", y.put(0), 8);
      TestKit.feed(y, "{a}+{b}");
      y.end(3);
      due("a sum cut", y.put(0), 1);
    });
    sentence("NONE, and nothing happens, if it has not so many, or n is below 0", () -> {
      int[] wrong = {13, 20, 600, 601, MAX, -1, -13, MIN};
      for (int n : wrong) {
        asks("end(" + n + ") of 12", -1, x -> x.end(n));
      }
      StateKit.asksBare("end(22)", -1, x -> x.end(22));
      due("end(601) of 600", fullTape().end(601), -1);
      due("end(600) of 600", fullTape().end(600), 600);
    });
  }

  private static void promise4() {
    SentenceKit.promise(4);
    sentence("The TAPE (empty then) is the WORLD (in place of another): how many LINES", () -> {
      SharedBranch x = StateKit.full();
      x.end(0);
      due("another one", TestKit.world(x, "names 2;"), 1);
      due("the tape is empty then", x.count(3), 0);
      due("two names", x.count(0), 2);
      due("one line", x.count(1), 1);
      due("no edges", x.count(2), 0);
      due("empty registers", x.count(4), 0);
      due("weights of 1", x.weight(3), 2);
      due("the order a, b", x.order(0), 0);
      due("no place 2", x.order(2), -2);
      due("no set 4", x.has(0, 4), -2);
      due("no way", x.ways(0, 0, 1), 0);
      due("rows stay", x.count(6), 3);
      due("images stay", x.back(1), 0);
      due("the image's register", x.has(3, 2), 1);
      due("three worlds in a row, a first", TestKit.world(x, "names 3; edge 0 1; weight a 9; let 4 = all;"), 4);
      due("a second", TestKit.world(x, "names 3;"), 1);
      due("a third", TestKit.world(x, "names 3;"), 1);
      due("it has no edges", x.count(2), 0);
      due("its registers are empty", x.count(4), 0);
      due("its weights are 1", x.weight(1), 1);
      due("no way of the first", x.ways(0, 0, 1), 0);
      due("no lines: no world", x.world(), 0);
      due("in place of the other", x.size(0), -2);
      due("no names", x.count(0), 0);
      due("no lines", x.count(1), 0);
      due("a world again", TestKit.world(x, "names 10;" + "let 0=0;".repeat(73)), 74);
    });
    sentence("-4: a FAULT (all stays)", () -> {
      String due = StateKit.readRest(StateKit.full());
      String[] faulty = {"?", "names 0;", "names 9; weight a 7; edge 3 4; let 0 = {j};", "names 9; let 0 = all; let 1 = "};
      for (String text : faulty) {
        SharedBranch x = StateKit.full();
        x.end(0);
        due("world of " + text, TestKit.world(x, text), -4);
        due("the tape is empty then, too", x.count(3), 0);
        TestKit.due("all stays by " + text, StateKit.readRest(x), due);
      }
      SharedBranch y = StateKit.bare();
      y.end(0);
      due("without a world", TestKit.world(y, "names 4; let 0 = ;"), -4);
      due("there is none then, too", y.count(0), 0);
      due("and no register", y.size(0), -2);
      due("rows stay", y.count(6), 3);
      due("a fine one behind it", TestKit.world(y, "names 4;"), 1);
      due("has no register of the faulty one", y.count(4), 0);
    });
  }

  private static void promise5() {
    SentenceKit.promise(5);
    sentence("The TAPE (empty then, by -2 too) is a SUM: REGISTER p (0 .. 9) is that FAMILY: how many SETS", () -> {
      SharedBranch x = StateKit.full();
      due("register 0", x.put(0), 3);
      TestKit.told("it is that family", x, 0, "0,a,bc");
      due("the tape is empty then", x.count(3), 0);
      due("register 9", TestKit.put(x, 9, "all"), 8);
      due("none", TestKit.put(x, 9, "{}"), 0);
      due("it is empty", x.size(9), 0);
      TestKit.told("the others stay", x, 1, "0,c");
      SharedBranch y = world("names 3; let 0 = all; let 1 = {a} + {b}; let 2 = all; let 3 = all;");
      for (int i = 0; i < 3; i++) {
        due("one set", TestKit.put(y, 5 + i, "{a}" + " + {a}".repeat(i)), 1);
      }
      due("the others stay, all of them", y.size(0) + y.size(1) + y.size(2) + y.size(3), 8 + 2 + 8 + 8);
      TestKit.feed(x, "{a}");
      due("register 10", x.put(10), -2);
      due("the tape is empty by -2, too", x.count(3), 0);
      due("all of ten names", TestKit.put(ten(), 4, "all"), 1024);
    });
    sentence("-2: there is no such REGISTER, no WORLD", () -> {
      int[] wrong = {10, -1, 11, MAX, MIN};
      String due = StateKit.readRest(StateKit.full());
      for (int p : wrong) {
        SharedBranch x = StateKit.full();
        due("put(" + p + ")", x.put(p), -2);
        due("the tape is empty", x.count(3), 0);
        due("the fault stays", x.fault(0), 1);
        due("its place stays", x.fault(1), 2);
        TestKit.due("all else stays", StateKit.readRest(x), due);
      }
      SharedBranch y = StateKit.bare();
      due("no world", y.put(0), -2);
      due("the tape is empty", y.count(3), 0);
      due("the fault stays", y.fault(0), 2);
      due("its place stays", y.fault(1), 6);
    });
    sentence("-4: a FAULT (all stays)", () -> {
      String due = StateKit.readRest(StateKit.full());
      String[] faulty = {"", " ", "0 +", "{d}", "0;", "let 0 = 1;", "0 0", "0)", "(0", "10", "((((((("};
      for (String text : faulty) {
        for (int p = 0; p < 10; p += 9) {
          SharedBranch x = StateKit.full();
          x.end(0);
          due("put of " + text, TestKit.put(x, p, text), -4);
          due("the tape is empty", x.count(3), 0);
          TestKit.due("all stays by " + text, StateKit.readRest(x), due);
        }
      }
    });
  }

  private static void promise6() {
    SentenceKit.promise(6);
    sentence("Of the latest world(), put() (but -2), what 0: its FAULT, 0 without, 1: its place (NONE without)", () -> {
      SharedBranch x = new SharedBranch();
      due("a faulty world", TestKit.world(x, "names 3; let 0 = {d};"), -4);
      due("its fault", x.fault(0), 2);
      due("its place", x.fault(1), 18);
      due("put by -2", TestKit.put(x, 0, "?"), -2);
      due("is passed over", x.fault(0), 2);
      due("its place, too", x.fault(1), 18);
      due("a fine world", TestKit.world(x, "names 3;"), 1);
      due("no fault", x.fault(0), 0);
      due("no place", x.fault(1), -1);
      due("a faulty put", TestKit.put(x, 0, "0 + (((((((0"), -4);
      due("its fault", x.fault(0), 3);
      due("its place", x.fault(1), 10);
      due("put by -2, without a tape", x.put(-1), -2);
      due("is passed over, too", x.fault(1), 10);
      due("a fine put", TestKit.put(x, 0, "0"), 0);
      due("no fault then", x.fault(0), 0);
      due("no place then", x.fault(1), -1);
      due("an empty put", x.put(0), -4);
      due("a fault at the end", x.fault(0), 1);
      due("that is at 0", x.fault(1), 0);
      due("an empty world", x.world(), 0);
      due("has none", x.fault(0), 0);
      due("and no place", x.fault(1), -1);
    });
    sentence("NONE for another what, and ahead of any (what 1)", () -> {
      int[] others = {2, 3, -1, MAX, MIN};
      for (int what : others) {
        asks("fault(" + what + ")", -1, x -> x.fault(what));
        due("of a new object", new SharedBranch().fault(what), -1);
      }
      due("ahead of any, what 1", new SharedBranch().fault(1), -1);
      due("ahead of any, what 0", new SharedBranch().fault(0), 0);
    });
  }

  private static void promises7And8() {
    SentenceKit.promise(7);
    sentence("How many SETS a REGISTER has", () -> {
      asks("size(0)", 3, x -> x.size(0));
      asks("size(2)", 1, x -> x.size(2));
      asks("size(9)", 0, x -> x.size(9));
      due("all", ten().size(0), 1024);
    });
    sentence("-2: there is none such, no WORLD", () -> {
      refuses(x -> x.size(10), x -> x.size(-1), x -> x.size(MAX), x -> x.size(MIN));
      noWorld(x -> x.size(0));
    });
    SentenceKit.promise(8);
    sentence("Whether a SET (bits) is of it: 1, 0", () -> {
      asks("has(0, 1)", 1, x -> x.has(0, 1));
      asks("has(0, 0)", 0, x -> x.has(0, 0));
      asks("has(1, 0)", 1, x -> x.has(1, 0));
      asks("has(2, 7)", 1, x -> x.has(2, 7));
      asks("has(9, 7)", 0, x -> x.has(9, 7));
      due("the last of ten names", ten().has(0, 1023), 1);
    });
    sentence("-2: there are none such", () -> {
      refuses(x -> x.has(10, 0), x -> x.has(-1, 0), x -> x.has(0, 8), x -> x.has(0, -1), x -> x.has(0, MAX),
          x -> x.has(0, MIN), x -> x.has(0, 1024));
      due("set 1024 of ten names", ten().has(0, 1024), -2);
      due("set 2 of one name", world("names 1;").has(0, 2), -2);
      due("set 1 of one name", world("names 1;").has(0, 1), 0);
      noWorld(x -> x.has(0, 0));
    });
  }

  private static void makesIs(int what, int p, int q, String want) {
    for (int to = 0; to < 10; to += 3) {
      SharedBranch x = StateKit.full();
      String first = TestKit.told(x, p == to ? 8 : p);
      int many = x.makes(to, what, p, q);
      TestKit.told("makes(" + to + ", " + what + ", " + p + ", " + q + ")", x, to, want);
      due("how many", many, x.size(to));
      TestKit.told("the source stays", x, p == to ? 8 : p, first);
    }
  }

  private static void promise9() {
    SentenceKit.promise(9);
    sentence("what 0 +, 1 -, 2 &, 3 *, 4 /, 5 %, 6 #: how many SETS", () -> {
      makesIs(0, 0, 1, "0,a,ab,c,bc");
      makesIs(0, 9, 9, "");
      makesIs(0, 0, 0, "a,ab,bc");
      makesIs(1, 0, 9, "a,ab,bc");
      makesIs(1, 0, 0, "");
      makesIs(1, 9, 0, "");
      makesIs(2, 0, 0, "a,ab,bc");
      makesIs(2, 0, 1, "");
      makesIs(2, 0, 9, "");
      makesIs(3, 0, 1, "a,ab,ac,bc,abc");
      makesIs(3, 0, 9, "");
      makesIs(3, 9, 0, "");
      makesIs(4, 0, 9, "");
      makesIs(4, 9, 9, "");
      makesIs(4, 0, 0, "0");
      makesIs(4, 2, 2, "0");
      makesIs(5, 0, 9, "a,ab,bc");
      makesIs(5, 0, 0, "");
      makesIs(5, 9, 0, "");
      makesIs(6, 0, 9, "a,ab,bc");
      makesIs(6, 0, 1, "");
      makesIs(6, 2, 0, "abc");
      makesIs(6, 9, 0, "");
    });
    sentence("-2: there are none such", () -> {
      refuses(x -> x.makes(10, 0, 0, 1), x -> x.makes(-1, 0, 0, 1), x -> x.makes(5, 7, 0, 1), x -> x.makes(5, -1, 0, 1),
          x -> x.makes(5, 0, 10, 1), x -> x.makes(5, 0, -1, 1), x -> x.makes(5, 0, 0, 10), x -> x.makes(5, 0, 0, -1),
          x -> x.makes(5, MAX, 0, 1), x -> x.makes(MIN, 0, 0, 1), x -> x.makes(5, 0, MAX, 1), x -> x.makes(5, 0, 0, MIN));
      noWorld(x -> x.makes(0, 0, 0, 0));
    });
  }

  private static void turnIs(int what, int p, String want) {
    for (int to = 0; to < 10; to += 3) {
      SharedBranch x = StateKit.full();
      int many = x.turn(to, what, p);
      TestKit.told("turn(" + to + ", " + what + ", " + p + ")", x, to, want);
      due("how many", many, x.size(to));
    }
  }

  private static void promise10() {
    SentenceKit.promise(10);
    sentence("what 0 min, 1 max, 2 hit, 3 not, 4 up, 5 down, 6: itself: how many SETS", () -> {
      turnIs(0, 0, "a,bc");
      turnIs(0, 1, "0");
      turnIs(0, 9, "");
      turnIs(1, 0, "ab,bc");
      turnIs(1, 1, "c");
      turnIs(1, 9, "");
      turnIs(2, 0, "ab,ac");
      turnIs(2, 1, "");
      turnIs(2, 9, "0");
      turnIs(3, 0, "0,b,c,ac,abc");
      turnIs(3, 9, "0,a,b,ab,c,ac,bc,abc");
      turnIs(4, 0, "a,ab,ac,bc,abc");
      turnIs(4, 9, "");
      turnIs(5, 0, "0,a,b,ab,c,bc");
      turnIs(5, 9, "");
      turnIs(6, 0, "a,ab,bc");
      turnIs(6, 9, "");
      asks("onto itself", 3, x -> x.turn(0, 6, 0));
      SharedBranch x = ten();
      int[] many = {1, 1, 0, 0, 1024, 1024, 1024};
      for (int what = 0; what < 7; what++) {
        due("turn " + what + " of all ten", x.turn(1, what, 0), many[what]);
      }
    });
    sentence("-2: there are none such", () -> {
      refuses(x -> x.turn(10, 0, 0), x -> x.turn(-1, 0, 0), x -> x.turn(5, 7, 0), x -> x.turn(5, -1, 0),
          x -> x.turn(5, 0, 10), x -> x.turn(5, 0, -1), x -> x.turn(5, MAX, 0), x -> x.turn(MIN, 0, 0), x -> x.turn(5, 0, MIN));
      noWorld(x -> x.turn(0, 6, 0));
    });
  }

  private static void promise11() {
    SentenceKit.promise(11);
    sentence("A SET comes to a REGISTER (is of it then), or goes: 1 if something is other by it, else 0", () -> {
      SharedBranch x = ten();
      int[] some = {0, 1, 31, 32, 63, 64, 127, 128, 500, 512, 960, 1023};
      for (int s : some) {
        due("comes where it is " + s, x.sets(0, s, true), 0);
        due("goes " + s, x.sets(0, s, false), 1);
        due("is not of it " + s, x.has(0, s), 0);
        due("goes where it is not " + s, x.sets(0, s, false), 0);
        due("comes " + s, x.sets(5, s, true), 1);
        due("is of it " + s, x.has(5, s), 1);
        due("comes again " + s, x.sets(5, s, true), 0);
      }
      due("all but these", x.size(0), 1024 - some.length);
      due("these", x.size(5), some.length);
      due("together all", x.makes(6, 0, 0, 5), 1024);
      due("none in both", x.makes(6, 2, 0, 5), 0);
      asks("comes where it is", 0, y -> y.sets(0, 3, true));
      asks("goes where it is not", 0, y -> y.sets(0, 0, false));
      asks("goes from none", 0, y -> y.sets(9, 0, false));
    });
    sentence("-2: there are none such", () -> {
      refuses(x -> x.sets(10, 0, true), x -> x.sets(-1, 0, true), x -> x.sets(0, 8, true), x -> x.sets(0, -1, true),
          x -> x.sets(0, 8, false), x -> x.sets(0, -1, false), x -> x.sets(0, MAX, true), x -> x.sets(0, MIN, true));
      due("set 1024", ten().sets(0, 1024, true), -2);
      noWorld(x -> x.sets(0, 0, true));
      noWorld(x -> x.sets(0, 0, false));
    });
  }

  private static void promise12() {
    SentenceKit.promise(12);
    sentence("with a NAME changed in each SET (taken out where it is, put in where it is not): how many SETS", () -> {
      SharedBranch x = StateKit.full();
      due("change a", x.change(5, 0, 0), 3);
      TestKit.told("change a", x, 5, "0,b,abc");
      due("change c", x.change(5, 0, 2), 3);
      TestKit.told("change c", x, 5, "b,ac,abc");
      TestKit.told("the source stays", x, 0, "a,ab,bc");
      due("of none", x.change(5, 9, 1), 0);
      TestKit.told("of none", x, 5, "");
      due("onto itself", x.change(1, 1, 2), 2);
      TestKit.told("onto itself", x, 1, "0,c");
      SharedBranch y = world("names 10; let 0 = {0,abcdefghij,f,g};");
      for (int name = 0; name < 10; name++) {
        due("change " + name, y.change(1, 0, name), 4);
        due("0 with it", y.has(1, 1 << name), 1);
        due("all without it", y.has(1, 1023 - (1 << name)), 1);
        due("all of ten", ten().change(0, 0, name), 1024);
      }
    });
    sentence("-2: there are none such", () -> {
      refuses(x -> x.change(10, 0, 0), x -> x.change(-1, 0, 0), x -> x.change(5, 10, 0), x -> x.change(5, -1, 0),
          x -> x.change(5, 0, 3), x -> x.change(5, 0, -1), x -> x.change(5, 0, MAX), x -> x.change(5, 0, MIN));
      due("name 10", ten().change(0, 0, 10), -2);
      noWorld(x -> x.change(0, 0, 0));
    });
  }

  private static void promise13() {
    SentenceKit.promise(13);
    sentence("those SETS of another one that have a NAME (without it then), or that have it not: how many SETS", () -> {
      SharedBranch x = StateKit.full();
      due("with a", x.half(5, 0, 0, true), 2);
      TestKit.told("with a", x, 5, "0,b");
      due("without a", x.half(5, 0, 0, false), 1);
      TestKit.told("without a", x, 5, "bc");
      due("with a name that none has", x.half(5, 1, 0, true), 0);
      due("without a name that all have", x.half(5, 2, 0, false), 0);
      due("of none", x.half(5, 9, 0, true), 0);
      due("of none, without", x.half(5, 9, 0, false), 0);
      TestKit.told("the source stays", x, 0, "a,ab,bc");
      due("onto itself", x.half(0, 0, 1, true), 2);
      TestKit.told("onto itself", x, 0, "a,c");
      SharedBranch y = ten();
      for (int name = 0; name < 10; name++) {
        due("with " + name, y.half(1, 0, name, true), 512);
        due("it is without it then", y.each(1, name), 0);
        due("without " + name, y.half(2, 0, name, false), 512);
        due("alike", y.alike(1, 2), 1);
      }
    });
    sentence("-2: there are none such", () -> {
      refuses(x -> x.half(10, 0, 0, true), x -> x.half(-1, 0, 0, true), x -> x.half(5, 10, 0, false),
          x -> x.half(5, -1, 0, true), x -> x.half(5, 0, 3, true), x -> x.half(5, 0, 3, false), x -> x.half(5, 0, -1, true),
          x -> x.half(5, 0, MAX, false), x -> x.half(5, 0, MIN, true));
      due("name 10", ten().half(1, 0, 10, true), -2);
      noWorld(x -> x.half(0, 0, 0, true));
    });
  }

  private static void promise14() {
    SentenceKit.promise(14);
    sentence("those SETS of another one that have n NAMES (0 .. 10): how many", () -> {
      int[] many = {1, 10, 45, 120, 210, 252, 210, 120, 45, 10, 1};
      SharedBranch x = ten();
      for (int n = 0; n <= 10; n++) {
        due("level " + n, x.level(1, 0, n), many[n]);
        due("it is that", x.size(1), many[n]);
      }
      SharedBranch y = StateKit.full();
      for (int n = 4; n <= 10; n++) {
        due("level " + n + " of three names", y.level(5, 2, n), 0);
      }
      due("level 0", y.level(5, 1, 0), 1);
      due("the empty one", y.has(5, 0), 1);
      due("of none", y.level(5, 9, 0), 0);
      due("onto itself", y.level(0, 0, 2), 2);
      TestKit.told("onto itself", y, 0, "ab,bc");
    });
    sentence("-2: there are none such", () -> {
      refuses(x -> x.level(10, 0, 0), x -> x.level(-1, 0, 0), x -> x.level(5, 10, 0), x -> x.level(5, -1, 0),
          x -> x.level(5, 0, 11), x -> x.level(5, 0, -1), x -> x.level(5, 0, MAX), x -> x.level(5, 0, MIN));
      noWorld(x -> x.level(0, 0, 0));
    });
  }

  private static void promises15And16() {
    SentenceKit.promise(15);
    sentence("The SET that is i-th by number (III); NONE: there are not so many", () -> {
      asks("the first", 1, x -> x.nth(0, 0));
      asks("the last", 6, x -> x.nth(0, 2));
      asks("one more", -1, x -> x.nth(0, 3));
      asks("the first of none", -1, x -> x.nth(9, 0));
      asks("i below 0", -1, x -> x.nth(0, -1));
      asks("i MIN", -1, x -> x.nth(0, MIN));
      asks("i MAX", -1, x -> x.nth(0, MAX));
      SharedBranch x = ten();
      int[] some = {0, 1, 63, 64, 65, 127, 128, 1022, 1023};
      for (int i : some) {
        due("nth of all " + i, x.nth(0, i), i);
      }
      due("1024", x.nth(0, 1024), -1);
      SharedBranch y = world("names 10; let 0 = {g,j,abcdef,abcdefghij};");
      int[] four = {63, 64, 512, 1023, -1};
      for (int i = 0; i < 5; i++) {
        due("nth " + i, y.nth(0, i), four[i]);
      }
    });
    sentence("-2: there is no such REGISTER, no WORLD", () -> {
      refuses(x -> x.nth(10, 0), x -> x.nth(-1, 0), x -> x.nth(MAX, -1), x -> x.nth(MIN, 0));
      noWorld(x -> x.nth(0, 0));
      noWorld(x -> x.nth(0, -1));
    });
    SentenceKit.promise(16);
    sentence("How many SETS of a REGISTER are less by number than a SET", () -> {
      asks("the least set", 0, x -> x.rank(0, 0));
      asks("the least of it", 0, x -> x.rank(0, 1));
      asks("behind it", 1, x -> x.rank(0, 2));
      asks("the last set", 3, x -> x.rank(0, 7));
      asks("the last set, that is of it", 0, x -> x.rank(2, 7));
      asks("of none", 0, x -> x.rank(9, 7));
      asks("behind the empty one", 1, x -> x.rank(1, 1));
      SharedBranch y = world("names 10; let 0 = {0,f,g,ag,j,cj,abcdefghij}; let 1 = all;");
      int[][] due = {{0, 0}, {32, 1}, {33, 2}, {63, 2}, {64, 2}, {65, 3}, {66, 4}, {128, 4}, {512, 4}, {513, 5}, {516, 5},
          {517, 6}, {1023, 6}};
      for (int[] one : due) {
        due("rank of " + one[0], y.rank(0, one[0]), one[1]);
        due("rank in all of " + one[0], y.rank(1, one[0]), one[0]);
      }
    });
    sentence("-2: there are none such", () -> {
      refuses(x -> x.rank(10, 0), x -> x.rank(-1, 0), x -> x.rank(0, 8), x -> x.rank(0, -1), x -> x.rank(0, MAX),
          x -> x.rank(0, MIN));
      due("set 1024", ten().rank(0, 1024), -2);
      noWorld(x -> x.rank(0, 0));
    });
  }

  private static void promises17And18() {
    SentenceKit.promise(17);
    sentence("The SET that is i-th by WEIGHT; NONE: there are not so many", () -> {
      // a 5, b 1, c 0: bc weighs 1, a 5, ab 6; 0 and c weigh nothing
      asks("the lightest", 6, x -> x.light(0, 0));
      asks("the next", 1, x -> x.light(0, 1));
      asks("the heaviest", 3, x -> x.light(0, 2));
      asks("one more", -1, x -> x.light(0, 3));
      asks("of like ones the least", 0, x -> x.light(1, 0));
      asks("then the other", 4, x -> x.light(1, 1));
      asks("of none", -1, x -> x.light(9, 0));
      asks("i below 0", -1, x -> x.light(0, -1));
      asks("i MIN", -1, x -> x.light(0, MIN));
      asks("i MAX", -1, x -> x.light(0, MAX));
      due("1023", ten().light(0, 1023), 1023);
      due("1024", ten().light(0, 1024), -1);
    });
    sentence("-2 as nth()", () -> {
      refuses(x -> x.light(10, 0), x -> x.light(-1, 0), x -> x.light(MAX, -1), x -> x.light(MIN, 0));
      noWorld(x -> x.light(0, 0));
      noWorld(x -> x.light(0, -1));
    });
    SentenceKit.promise(18);
    sentence("WEIGHT of a SET", () -> {
      int[] due = {0, 5, 1, 6, 0, 5, 1, 6};
      for (int s = 0; s < 8; s++) {
        int set = s;
        asks("weight(" + s + ")", due[s], x -> x.weight(set));
      }
      due("ten names of 1", ten().weight(1023), 10);
    });
    sentence("-2: there is none such, no WORLD", () -> {
      refuses(x -> x.weight(8), x -> x.weight(-1), x -> x.weight(MAX), x -> x.weight(MIN));
      due("set 1024", ten().weight(1024), -2);
      noWorld(x -> x.weight(0));
    });
  }

  private static void promises19And20() {
    SentenceKit.promise(19);
    sentence("A NAME has this weight (0 .. 99) from now on: which it had", () -> {
      SharedBranch x = StateKit.full();
      due("a had 5", x.weigh(0, 99), 5);
      due("then 99", x.weigh(0, 0), 99);
      due("then 0", x.weigh(0, 7), 0);
      due("from now on", x.weight(1), 7);
      due("of sets, too", x.weighs(0, 2), 1 + 7 + 8);
      due("b is as it was", x.weight(2), 1);
      due("c, the last name", x.weigh(2, 50), 0);
      due("by weight, too", x.light(0, 0), 1);
      due("j of ten", ten().weigh(9, 3), 1);
    });
    sentence("-2: there are none such", () -> {
      refuses(x -> x.weigh(3, 1), x -> x.weigh(-1, 1), x -> x.weigh(0, 100), x -> x.weigh(0, -1), x -> x.weigh(0, MAX),
          x -> x.weigh(0, MIN), x -> x.weigh(MAX, 1), x -> x.weigh(MIN, 1));
      due("name 10", ten().weigh(10, 1), -2);
      noWorld(x -> x.weigh(0, 1));
    });
    SentenceKit.promise(20);
    sentence("What 0: the least WEIGHT of its SETS, 1: the greatest, 2: of all together", () -> {
      asks("the least", 1, x -> x.weighs(0, 0));
      asks("the greatest", 6, x -> x.weighs(0, 1));
      asks("together", 12, x -> x.weighs(0, 2));
      asks("the least of those that weigh nothing", 0, x -> x.weighs(1, 0));
      asks("their greatest", 0, x -> x.weighs(1, 1));
      asks("together nothing", 0, x -> x.weighs(1, 2));
      SharedBranch x = world("names 10; let 0 = all; let 1 = {0}; let 2 = {0,a}; let 3 = {abcdefghij};");
      for (int name = 0; name < 10; name++) {
        x.weigh(name, 99);
      }
      int[][] due = {{0, 990, 506880}, {0, 0, 0}, {0, 99, 99}, {990, 990, 990}};
      for (int p = 0; p < 4; p++) {
        for (int what = 0; what < 3; what++) {
          due("weighs(" + p + ", " + what + ")", x.weighs(p, what), due[p][what]);
        }
      }
    });
    sentence("NONE: it has none (what 2: 0); -2: there are none such", () -> {
      asks("the least of none", -1, x -> x.weighs(9, 0));
      asks("the greatest of none", -1, x -> x.weighs(9, 1));
      asks("all of none", 0, x -> x.weighs(9, 2));
      refuses(x -> x.weighs(10, 0), x -> x.weighs(-1, 0), x -> x.weighs(0, 3), x -> x.weighs(0, -1), x -> x.weighs(9, 3),
          x -> x.weighs(0, MAX), x -> x.weighs(0, MIN), x -> x.weighs(10, 2));
      noWorld(x -> x.weighs(0, 0));
      noWorld(x -> x.weighs(0, 2));
    });
  }

  private static void promises21And22() {
    SentenceKit.promise(21);
    sentence("How many of its SETS have a NAME", () -> {
      asks("a", 2, x -> x.each(0, 0));
      asks("c", 1, x -> x.each(0, 2));
      asks("a name that none has", 0, x -> x.each(1, 0));
      asks("of none", 0, x -> x.each(9, 0));
      SharedBranch x = ten();
      for (int name = 0; name < 10; name++) {
        due("of all " + name, x.each(0, name), 512);
      }
    });
    sentence("-2: there are none such", () -> {
      refuses(x -> x.each(10, 0), x -> x.each(-1, 0), x -> x.each(0, 3), x -> x.each(0, -1), x -> x.each(0, MAX),
          x -> x.each(0, MIN));
      due("name 10", ten().each(0, 10), -2);
      noWorld(x -> x.each(0, 0));
    });
    SentenceKit.promise(22);
    sentence("NAMES that are in all its SETS (what 0), in some (1), by which it is never other if they are changed in all"
        + " its SETS (2), as bits (all, if it is empty, what 0, 2)", () -> {
      asks("in all of none", 7, x -> x.names(9, 0));
      asks("in some of none", 0, x -> x.names(9, 1));
      asks("never other, of none", 7, x -> x.names(9, 2));
      asks("in all", 0, x -> x.names(0, 0));
      asks("in some", 7, x -> x.names(0, 1));
      asks("never other", 0, x -> x.names(0, 2));
      asks("in all of the greatest", 7, x -> x.names(2, 0));
      asks("never other by c", 4, x -> x.names(1, 2));
      asks("in some, c", 4, x -> x.names(1, 1));
      SharedBranch x = world("names 10; let 0 = all; let 1 = {0}; let 2 = {j,gj}; let 4 = {ab,0};");
      int[][] due = {{0, 1023, 1023}, {0, 0, 0}, {512, 576, 64}, {1023, 0, 1023}, {0, 3, 0}};
      for (int p = 0; p < 5; p++) {
        for (int what = 0; what < 3; what++) {
          due("names(" + p + ", " + what + ")", x.names(p, what), due[p][what]);
        }
      }
    });
    sentence("-2: there are none such", () -> {
      refuses(x -> x.names(10, 0), x -> x.names(-1, 0), x -> x.names(0, 3), x -> x.names(0, -1), x -> x.names(9, 3),
          x -> x.names(0, MAX), x -> x.names(0, MIN));
      noWorld(x -> x.names(0, 0));
      noWorld(x -> x.names(0, 2));
    });
  }

  private static void promise23() {
    SentenceKit.promise(23);
    sentence("The SET drawn by a seed (0 .. 2,000,000,000) (V); NONE: it has none", () -> {
      asks("seed 0", 1, x -> x.draw(0, 0));
      asks("seed 1: 16838 modulo 3 is 2", 6, x -> x.draw(0, 1));
      asks("of one", 7, x -> x.draw(2, 2000000000));
      asks("of none", -1, x -> x.draw(9, 0));
      asks("of none, the last seed", -1, x -> x.draw(9, 2000000000));
      // 1103515245 * 2,000,000,000 and 12345, modulo 2 to the 31, is 216544313; cut 3304, modulo 1024 232
      due("the last seed", ten().draw(0, 2000000000), 232);
    });
    sentence("-2: there are none such", () -> {
      refuses(x -> x.draw(10, 0), x -> x.draw(-1, 0), x -> x.draw(0, -1), x -> x.draw(0, 2000000001), x -> x.draw(0, MAX),
          x -> x.draw(0, MIN), x -> x.draw(9, -1), x -> x.draw(9, 2000000001));
      noWorld(x -> x.draw(0, 0));
    });
  }

  private static void promises24And25() {
    SentenceKit.promise(24);
    sentence("Whether two REGISTERS are alike: 1, 0", () -> {
      asks("unlike", 0, x -> x.alike(0, 1));
      asks("itself", 1, x -> x.alike(0, 0));
      asks("two empty ones", 1, x -> x.alike(8, 9));
      asks("an empty one", 0, x -> x.alike(0, 9));
      SharedBranch x = world("names 10; let 0 = all; let 1 = all; let 2 = not {0}; let 3 = not {abcdefghij};");
      due("two of all", x.alike(0, 1), 1);
      due("all but the first", x.alike(0, 2), 0);
      due("all but the last", x.alike(0, 3), 0);
    });
    sentence("-2: there are none such", () -> {
      refuses(x -> x.alike(10, 0), x -> x.alike(-1, 0), x -> x.alike(0, 10), x -> x.alike(0, -1), x -> x.alike(10, 10));
      noWorld(x -> x.alike(0, 0));
    });
    SentenceKit.promise(25);
    sentence("The least SET by number that is of one alone; NONE: they are alike", () -> {
      asks("of the one alone", 1, x -> x.differ(0, 9));
      asks("of the other alone", 1, x -> x.differ(9, 0));
      asks("the empty one", 0, x -> x.differ(1, 2));
      asks("the greatest", 7, x -> x.differ(2, 9));
      asks("itself", -1, x -> x.differ(0, 0));
      asks("two empty ones", -1, x -> x.differ(8, 9));
      SharedBranch x = world("names 10; let 0 = all; let 1 = all; let 2 = not {0}; let 3 = not {abcdefghij}; let 4 = not {g,j};");
      due("two of all", x.differ(0, 1), -1);
      due("all but the first", x.differ(0, 2), 0);
      due("all but the last", x.differ(3, 0), 1023);
      due("of one alone and of the other alone", x.differ(3, 4), 64);
    });
    sentence("-2 likewise", () -> {
      refuses(x -> x.differ(10, 0), x -> x.differ(-1, 0), x -> x.differ(0, 10), x -> x.differ(0, -1), x -> x.differ(10, 10));
      noWorld(x -> x.differ(0, 0));
    });
  }

  private static void promises26To28() {
    SentenceKit.promise(26);
    sentence("Whether each SET of the one is of the other: 1, 0", () -> {
      asks("none in none", 1, x -> x.within(8, 9));
      asks("none in one", 1, x -> x.within(9, 0));
      asks("one in none", 0, x -> x.within(0, 9));
      asks("itself", 1, x -> x.within(0, 0));
      SharedBranch x = world("names 10; let 0 = all; let 1 = not {abcdefghij}; let 2 = {0};");
      due("all but the last in all", x.within(1, 0), 1);
      due("all in all but the last", x.within(0, 1), 0);
      due("the first in all", x.within(2, 0), 1);
      due("all in the first", x.within(0, 2), 0);
    });
    sentence("-2 likewise", () -> {
      refuses(x -> x.within(10, 0), x -> x.within(-1, 0), x -> x.within(0, 10), x -> x.within(0, -1), x -> x.within(9, 10));
      noWorld(x -> x.within(0, 0));
    });
    SentenceKit.promise(27);
    sentence("Whether the one is least hits of the other and the other least hits of the one: 1, 0", () -> {
      asks("none and none", 0, x -> x.dual(8, 9));
      asks("unlike", 0, x -> x.dual(0, 1));
      SharedBranch x = world("names 3; let 1 = {0}; let 2 = {a,b,c}; let 3 = {abc}; let 4 = {ab,ac,bc}; let 5 = {abc,ab}; "
          + "let 6 = {a,b};");
      due("none and the empty set", x.dual(0, 1), 1);
      due("the empty set and none", x.dual(1, 0), 1);
      due("single ones and all", x.dual(2, 3), 1);
      due("its own", x.dual(4, 4), 1);
      // hits of {ab,abc} are a, b, whose hits are ab alone
      due("one way alone", x.dual(5, 6), 0);
      due("the other way alone", x.dual(6, 5), 0);
      due("itself", x.dual(2, 2), 0);
    });
    sentence("-2 likewise", () -> {
      refuses(x -> x.dual(10, 0), x -> x.dual(-1, 0), x -> x.dual(0, 10), x -> x.dual(0, -1));
      noWorld(x -> x.dual(0, 0));
    });
    SentenceKit.promise(28);
    sentence("How many pairs (a SET of the one, one of the other) have nothing in common", () -> {
      asks("none", 0, x -> x.apart(0, 9));
      asks("none of none", 0, x -> x.apart(9, 9));
      asks("the empty one and itself", 3, x -> x.apart(1, 1));
      asks("of two", 5, x -> x.apart(0, 1));
      asks("the other way", 5, x -> x.apart(1, 0));
      SharedBranch x = world("names 10; let 0 = all; let 1 = {0}; let 2 = {abcdefghij}; let 3 = {j};");
      due("all and all", x.apart(0, 0), 59049);
      due("all and the empty one", x.apart(0, 1), 1024);
      due("all and the greatest", x.apart(0, 2), 1);
      due("all and j", x.apart(0, 3), 512);
      due("the greatest and itself", x.apart(2, 2), 0);
    });
    sentence("-2 likewise", () -> {
      refuses(x -> x.apart(10, 0), x -> x.apart(-1, 0), x -> x.apart(0, 10), x -> x.apart(0, -1));
      noWorld(x -> x.apart(0, 0));
    });
  }

  private static void packsIs(String family, int fewest, int most) {
    SharedBranch x = world("names 10; let 0 = " + family + ";");
    due("fewest of " + family, x.packs(0, 0), fewest);
    due("most of " + family, x.packs(0, 1), most);
  }

  private static void promise29() {
    SentenceKit.promise(29);
    sentence("How many of its SETS at least must be taken so that together they have all NAMES that are in some (what 0)", () -> {
      packsIs("{a,b,c,d,e,f,g,h,i,j}", 10, 10);
      packsIs("{a,b,c,d,e,f,g,h,i,j,0,ab}", 9, 11);
      packsIs("{ab,bc,cd,de,ef,fg,gh,hi,ij,aj}", 5, 5);
      packsIs("{abcde,fghij,abcdefghij}", 1, 2);
      packsIs("{abcdef,ab,cd,efg}", 2, 3);
      packsIs("{ab,c,d,abc}", 2, 3);
      packsIs("{a,b,ab,c}", 2, 3);
      SharedBranch x = world("names 10; let 0 = {a,b,c,d,e,f,g,h,i,j,0,ab}; let 1 = {ab,c}; let 2 = {j}; let 3 = {a,b,c};");
      int[] fewest = {9, 2, 1, 3};
      int[] most = {11, 2, 1, 3};
      for (int p = 0; p < 4; p++) {
        due("one behind the other, " + p, x.packs(p, 0), fewest[p]);
        due("and the most, " + p, x.packs(p, 1), most[p]);
      }
    });
    sentence("that have nothing in common, any two, at most (what 1; the empty SET counts)", () -> {
      packsIs("{0}", 0, 1);
      packsIs("{0,a}", 1, 2);
      packsIs("{a}", 1, 1);
      packsIs("{0,a,ab,abc}", 1, 2);
      packsIs("{abc,cde,efg,ghi,0}", 4, 3);
      packsIs("{ab,ac,bc}", 2, 1);
    });
    sentence("NONE: it has none; -3: it has more than twelve SETS; -2: there are none such", () -> {
      asks("fewest of none", -1, x -> x.packs(9, 0));
      asks("most of none", -1, x -> x.packs(9, 1));
      packsIs("{a,b,c,d,e,f,g,h,i,j,0,ab}", 9, 11);
      packsIs("{a,b,c,d,e,f,g,h,i,j,0,ab,abcdefghij}", -3, -3);
      packsIs("all", -3, -3);
      SharedBranch x = world("names 4; let 0 = all - {0,a,b,ab}; let 1 = all - {0,a,b};");
      due("twelve", x.packs(0, 0), 1);
      due("thirteen", x.packs(1, 0), -3);
      due("thirteen, what 2", x.packs(1, 2), -2);
      refuses(y -> y.packs(10, 0), y -> y.packs(-1, 0), y -> y.packs(0, 2), y -> y.packs(0, -1), y -> y.packs(9, 2),
          y -> y.packs(9, -1), y -> y.packs(0, MAX), y -> y.packs(0, MIN));
      noWorld(y -> y.packs(0, 0));
      noWorld(y -> y.packs(0, 1));
    });
  }
}
