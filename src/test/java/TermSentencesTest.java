/** The sentences of "Terms" that name a boundary case, each with a test of its own. */
public final class TermSentencesTest {
  private static final String[] WORDS = {"min", "max", "hit", "not", "up", "down"};

  public static void main(String[] args) {
    SentenceKit.terms();
    namesAndLines();
    edgesAndLets();
    sums();
    signsOfSums();
    turningWords();
    tokens();
    faultsByPlace();
    faultsOfKind1();
    faultsOfKind2();
    faultsOfKind3();
    slots();
    orders();
    weights();
    maps();
    draws();
    SentenceKit.finish("TermSentencesTest");
  }

  private static void sentence(String quote, Runnable test) {
    SentenceKit.sentence(quote, test);
  }

  private static void due(String call, long got, long want) {
    TestKit.due(call, got, want);
  }

  /** The place of the fault is marked by ^, which is no byte of the text. */
  private static void faulty(String marked, int kind) {
    int place = marked.indexOf('^');
    TestKit.holds("a place is marked in " + marked, place >= 0);
    TestKit.faulty(marked.substring(0, place) + marked.substring(place + 1), kind, place);
  }

  private static void fine(String text, int lines) {
    TestKit.fine(text, lines);
  }

  private static SharedBranch world(String text) {
    return TestKit.withWorld(text);
  }

  /** Of three names, with 0: a, ab, bc; 1: 0, c; 2: abc. */
  private static void sumIs(String sum, String want) {
    SharedBranch x = world("names 3; let 0 = {a,ab,bc}; let 1 = {0,c}; let 2 = {abc};");
    TestKit.holds(sum + " is fine", TestKit.put(x, 5, sum) >= 0);
    TestKit.told(sum, x, 5, want);
  }

  private static void namesAndLines() {
    sentence("NAMES 0 .. 9 (a .. j)", () -> {
      SharedBranch x = world("names 10; let 0 = {a,j,abcdefghij};");
      TestKit.told("a is 0, j is 9", x, 0, "a,j,abcdefghij");
      due("a", x.has(0, 1), 1);
      due("j", x.has(0, 512), 1);
      due("all ten", x.has(0, 1023), 1);
      due("name 9", x.each(0, 9), 2);
      due("name 10", x.each(0, 10), -2);
      due("name -1", x.each(0, -1), -2);
      faulty("names 10; let 0 = {^k};", 2);
    });
    sentence("a FAMILY is any of all SETS", () -> {
      SharedBranch x = world("names 10; let 0 = all; let 1 = {}; let 2 = {0};");
      due("all", x.size(0), 1024);
      due("none", x.size(1), 0);
      due("the empty set alone", x.size(2), 1);
      for (int s = 0; s < 1024; s += 93) {
        due("goes " + s, x.sets(0, s, false), 1);
        due("comes " + s, x.sets(1, s, true), 1);
      }
      due("all but some", x.size(0), 1024 - 12);
      due("the some", x.size(1), 12);
      due("all again", x.makes(0, 0, 0, 1), 1024);
    });
    sentence("WORLD: {LINE ;}", () -> {
      fine("", 0);
      fine(" \n ", 0);
      fine("names 1;", 1);
      fine("names 1;let 0={};", 2);
      faulty("names 1^", 1);
      faulty("names 1;let 0={}^", 1);
      faulty("^;names 1;", 1);
      faulty("names 1;^;", 1);
    });
    sentence("names is the first LINE and no other: 1 .. 10", () -> {
      fine("names 1;", 1);
      fine("names 10;", 1);
      faulty("names ^0;", 2);
      faulty("names ^11;", 2);
      faulty("names ^99999999999999999999;", 2);
      faulty("names ^4294967299;", 2);
      faulty("names 3; ^names 3;", 1);
      faulty("names 3; let 0 = {}; ^names 3;", 1);
      faulty("^weight a 1; names 3;", 1);
    });
    sentence("NAME: a word of one letter, that there is", () -> {
      SharedBranch x = world("names 10; weight a 7; weight j 8;");
      due("a", x.weight(1), 7);
      due("j", x.weight(512), 8);
      fine("names 1; weight a 1;", 2);
      faulty("names 1; weight ^b 1;", 2);
      faulty("names 10; weight ^k 1;", 2);
      faulty("names 3; weight ^ab 1;", 1);
      faulty("names 3; weight ^0 1;", 1);
    });
    sentence("weight 0 .. 99 (a later one strikes; 1 without)", () -> {
      SharedBranch x = world("names 3; weight a 0; weight b 99;");
      due("0", x.weight(1), 0);
      due("99", x.weight(2), 99);
      due("1 without", x.weight(4), 1);
      faulty("names 3; weight a ^100;", 2);
      faulty("names 3; weight a ^-1;", 1);
      due("a later one", world("names 1; weight a 5; weight a 6; weight a 7;").weight(1), 7);
      due("a later one that is less", world("names 1; weight a 5; weight a 0;").weight(1), 0);
    });
  }

  private static void edgesAndLets() {
    sentence("EDGE k (as they stand) is NAME k", () -> {
      SharedBranch x = world("names 4; edge 6 7; weight a 3; edge 0 1; let 0 = {}; edge 3 2;");
      x.ways(0, 7, 6);
      x.ways(1, 0, 1);
      x.ways(2, 2, 3);
      TestKit.told("the first", x, 0, "a");
      TestKit.told("the second", x, 1, "b");
      TestKit.told("the third", x, 2, "c");
    });
    sentence("it joins two unlike CROSSINGS 0 .. 7", () -> {
      fine("names 2; edge 0 7; edge 7 0;", 3);
      faulty("names 2; edge ^8 0;", 2);
      faulty("names 2; edge 0 ^8;", 2);
      faulty("names 2; edge ^8 8;", 2);
      faulty("names 2; edge 0 ^0;", 2);
      faulty("names 2; edge 7 ^7;", 2);
    });
    sentence("no more EDGES than NAMES", () -> {
      fine("names 1; edge 0 1;", 2);
      faulty("names 1; edge 0 1; ^edge 0 1;", 3);
      String ten = "names 10;" + "edge 0 1;".repeat(10);
      fine(ten, 11);
      due("ten edges", world(ten).count(2), 10);
      faulty(ten + "^edge 0 1;", 3);
    });
    sentence("let N: REGISTER N (0 .. 9) is that FAMILY then (all are empty at first)", () -> {
      SharedBranch x = world("names 2; let 0 = {a}; let 9 = 0; let 0 = 0 + {b}; let 1 = 2;");
      TestKit.told("register 0", x, 0, "a,b");
      TestKit.told("register 9 is what 0 was then", x, 9, "a");
      due("one that was empty", x.size(1), 0);
      due("others are empty", x.count(4), 513);
      due("empty at first", world("names 2; let 0 = 9 + 8 + 7 + 6 + 5 + 4 + 3 + 2 + 1 + 0;").count(4), 0);
      due("another world's are not seen", TestKit.world(x, "names 2; let 1 = 0 + 9;"), 2);
      due("so this is empty", x.count(4), 0);
      due("nor in a third world", TestKit.world(x, "names 2; let 1 = 0 + 9;"), 2);
      due("so that is empty", x.count(4), 0);
      faulty("names 2; let ^10 = 0;", 2);
    });
  }

  private static void sums() {
    sentence("TERM {+ TERM | - TERM}. TERM: PART {& PART | * PART | / PART | % PART | # PART}, from the left both", () -> {
      sumIs("{a} - {a} + {a}", "a");
      sumIs("{a,b,c} - {a} - {a,b}", "c");
      sumIs("{ab} / {a} * {a}", "ab");
      sumIs("{a,b} * {b} & {ab}", "ab");
      sumIs("{ab,c} % {a} # {c}", "c");
      sumIs("{abc} / {a} / {b}", "c");
      sumIs("{a} + {b} * {c}", "a,bc");
      sumIs("{a} * {b} + {c}", "ab,c");
      sumIs("{a,bc} - {b} * {c}", "a");
      sumIs("{a} + {b} & {b} - {b}", "a");
    });
    sentence("PART: N (what REGISTER N is then)", () -> {
      sumIs("0", "a,ab,bc");
      sumIs("9", "");
      SharedBranch x = world("names 3; let 5 = {a};");
      TestKit.put(x, 5, "5 * {b} + 5");
      TestKit.told("of itself", x, 5, "a,ab");
      faulty("names 3; let 0 = ^10;", 2);
    });
    sentence("{ [SET {, SET}] }", () -> {
      sumIs("{}", "");
      sumIs("{ }", "");
      sumIs("{0}", "0");
      sumIs("{c,a,0,a}", "0,a,c");
      faulty("names 3; let 0 = {^,};", 1);
      faulty("names 3; let 0 = {a,^};", 1);
      faulty("names 3; let 0 = {a ^b};", 1);
      faulty("names 3; let 0 = {a^;", 1);
    });
    sentence("min PART | max PART | hit PART | not PART | up PART | down PART | ( SUM )", () -> {
      sumIs("min 0 + {abc}", "a,bc,abc");
      sumIs("not 0 & {b,a}", "b");
      sumIs("up min down {ab}", "0,a,b,ab,c,ac,bc,abc");
      sumIs("{b} * (0 - {a})", "ab,bc");
      sumIs("{ab,b} & not {b}", "ab");
      sumIs("{a} + max {b,bc}", "a,bc");
      faulty("names 3; let 0 = min^;", 1);
      faulty("names 3; let 0 = (^);", 1);
      faulty("names 3; let 0 = (0^;", 1);
    });
    sentence("SET: 0 (the empty one) or a word of NAMES, none twice", () -> {
      sumIs("{0}", "0");
      sumIs("{cba}", "abc");
      faulty("names 3; let 0 = {^aa};", 2);
      faulty("names 3; let 0 = {^bb};", 2);
      faulty("names 3; let 0 = {^cabc};", 2);
      faulty("names 10; let 0 = {^abcdefghijj};", 2);
      faulty("names 3; let 0 = {^1};", 2);
      faulty("names 3; let 0 = {a^0};", 1);
    });
  }

  private static void signsOfSums() {
    sentence("x + y: SETS of x or y; x - y: of x, not of y; x & y: of both", () -> {
      sumIs("{} + {}", "");
      sumIs("{a} + {a}", "a");
      sumIs("{} - {a}", "");
      sumIs("{a} - {}", "a");
      sumIs("all - all", "");
      sumIs("{a} & {}", "");
      sumIs("all & {0,b}", "0,b");
    });
    sentence("x * y: each of x joined with each of y", () -> {
      sumIs("{} * {a}", "");
      sumIs("{a} * {}", "");
      sumIs("{0} * 0", "a,ab,bc");
      sumIs("{a,b} * {a,b}", "a,b,ab");
      sumIs("all * all", "0,a,b,ab,c,ac,bc,abc");
      sumIs("{abc} * all", "abc");
      SharedBranch ten = world("names 10; let 0 = all; let 1 = {ac,j};");
      due("of all by all", ten.makes(2, 3, 0, 0), 1024);
      due("of all by two", ten.makes(2, 3, 0, 1), 512 + 128);
    });
    sentence("x / y: SETS that have nothing of any of y and joined with each of y are of x (none, if y is empty)", () -> {
      sumIs("all / {}", "");
      sumIs("{} / {}", "");
      sumIs("{} / {a}", "");
      sumIs("0 / {0}", "a,ab,bc");
      sumIs("{a,ab} / {a}", "0,b");
      sumIs("all / {a,b}", "0,c");
      sumIs("all / {abc}", "0");
      sumIs("{ab,ac,b} / {b,c}", "a");
      sumIs("{a,ab} / {a,ab}", "0");
      sumIs("{c,ac} / {0,a}", "c");
      sumIs("{ab} / {b,c}", "");
      sumIs("{c} / {0,a}", "");
      sumIs("{bc,abc} / {c,ac}", "b");
    });
    sentence("x % y: x less y * (x / y)", () -> {
      sumIs("0 % {}", "a,ab,bc");
      sumIs("0 % {0}", "");
      sumIs("0 % {a}", "bc");
      sumIs("0 % 0", "");
      sumIs("{} % {a}", "");
      sumIs("{ab,ac,bc} % {b,c}", "bc");
    });
    sentence("x # y: SETS of x that have something of each of y", () -> {
      sumIs("all # {}", "0,a,b,ab,c,ac,bc,abc");
      sumIs("all # {0}", "");
      sumIs("{} # {a}", "");
      sumIs("{0,a} # {a}", "a");
      sumIs("all # {a,bc}", "ab,ac,abc");
      sumIs("all # {a,0}", "");
    });
    sentence("all: all SETS of NAMES", () -> {
      sumIs("all", "0,a,b,ab,c,ac,bc,abc");
      int[] many = {2, 4, 8, 16, 32, 64, 128, 256, 512, 1024};
      for (int names = 1; names <= 10; names++) {
        SharedBranch x = world("names " + names + "; let 0 = all; let 1 = {a} + all; let 2 = not {};");
        due("all of " + names, x.size(0), many[names - 1]);
        due("and one of them", x.size(1), many[names - 1]);
        due("not none", x.size(2), many[names - 1]);
      }
      SharedBranch x = world("names 10; let 0 = all;");
      for (int names = 9; names >= 1; names--) {
        TestKit.world(x, "names " + names + "; let 0 = all; let 1 = not {};");
        due("all of fewer than there were, " + names, x.size(0), many[names - 1]);
        due("not none of fewer, " + names, x.size(1), many[names - 1]);
      }
    });
  }

  private static void turningWords() {
    sentence("min x: those in which no other one of x lies", () -> {
      sumIs("min {}", "");
      sumIs("min {0}", "0");
      sumIs("min all", "0");
      sumIs("min {a,abc}", "a");
      sumIs("min {a,b,ab}", "a,b");
      sumIs("min {ab,bc,ac}", "ab,ac,bc");
      due("far below", world("names 10; let 0 = min {a,abcdefghij,ij,fij};").size(0), 2);
    });
    sentence("max x: those that lie in no other one of x", () -> {
      sumIs("max {}", "");
      sumIs("max {0}", "0");
      sumIs("max {0,a}", "a");
      sumIs("max all", "abc");
      sumIs("max {c,abc}", "abc");
      sumIs("max {a,b,ab}", "ab");
      due("far above", world("names 10; let 0 = max {a,abcdefghi,ij,j};").size(0), 2);
    });
    sentence("hit x: the least SETS that have something of each of x (that is min of all such)", () -> {
      sumIs("hit {}", "0");
      sumIs("hit {0}", "");
      sumIs("hit {0,a}", "");
      sumIs("hit {abc}", "a,b,c");
      sumIs("hit {a,b,c}", "abc");
      sumIs("hit {ab,bc}", "b,ac");
      sumIs("hit {a,ab}", "a");
      sumIs("hit all", "");
    });
    sentence("not x: all less x", () -> {
      sumIs("not {}", "0,a,b,ab,c,ac,bc,abc");
      sumIs("not all", "");
      sumIs("not {0}", "a,b,ab,c,ac,bc,abc");
    });
    sentence("up x: all in which one of x lies", () -> {
      sumIs("up {}", "");
      sumIs("up {0}", "0,a,b,ab,c,ac,bc,abc");
      sumIs("up {abc}", "abc");
      sumIs("up {a,bc}", "a,ab,ac,bc,abc");
    });
    sentence("down x: all that lie in one of x", () -> {
      sumIs("down {}", "");
      sumIs("down {0}", "0");
      sumIs("down {abc}", "0,a,b,ab,c,ac,bc,abc");
      sumIs("down {a,bc}", "0,a,b,c,bc");
    });
  }

  private static void tokens() {
    sentence("TOKENS, blanks (32, 10) aside, the longest: words (a .. z), numbers (digits)", () -> {
      fine("names3;let0={a,b}+1;", 2);
      fine(" \n\nnames\n 3 \n;\nlet 0 = {\na , b } +\n1 ; \n", 2);
      faulty("names 1 ^0;", 1);
      faulty("^na mes 3;", 1);
      faulty("^namesx 3;", 1);
      faulty("names 3; let 0 = ^minall;", 1);
      faulty("names 3; let 0 = {^allmin};", 2);
      fine("names 3; let 0 = min0;", 2);
      faulty("names 3;^\t", 1);
      faulty("names 3;^\r", 1);
      faulty("names 3;^" + (char) 0, 1);
      faulty("names 3;^" + (char) 11, 1);
      faulty("names 3;^" + (char) 31, 1);
      faulty("names 3;^" + (char) 33, 1);
      faulty("names 3;^" + (char) 160, 1);
      faulty("names 3;^" + (char) 255, 1);
      faulty("names 3;let 0 = {^`};", 1);
      faulty("names 3;let 0 = {a^{};", 1);
      faulty("names ^:;", 1);
      faulty("names ^/;", 1);
      String letters = "abcdefghijklmnopqrstuvwxyz";
      faulty("^" + letters + ";", 1);
      faulty("names 3;let 0 = {^z};", 2);
      // 600 bytes that are 600 tokens
      SharedBranch x = world("names 3;");
      String many = "{}+{" + "a,".repeat(297) + "b}";
      due("600 tokens", many.length(), 600);
      due("600 tokens", TestKit.put(x, 0, many), 2);
      due("the last one can't stand there", TestKit.put(x, 0, many.substring(0, 599) + "?"), -4);
      due("its place", x.fault(1), 599);
      due("none behind it", TestKit.put(x, 0, many.substring(0, 599) + ","), -4);
      due("the end's place", x.fault(1), 600);
    });
    sentence("the signs ; = + - & * / % # ( ) { } ,", () -> {
      fine("names 3;let 1=(0)+1-2&3*4/5%6#{a,0};", 2);
      for (char c = 33; c < 256; c++) {
        boolean isWordOrNumber = c >= 'a' && c <= 'z' || c >= '0' && c <= '9';
        boolean isSign = "+-&*/%#".indexOf(c) >= 0;
        if (isSign || c == ';') {
          fine("names 3;let 0=1" + c + (isSign ? "1;" : ""), 2);
        } else if (!isWordOrNumber && c != '^') {
          faulty("names 3;let 0=1^" + c + "1;", 1);
        }
      }
    });
  }

  private static void faultsByPlace() {
    sentence("FAULTS, the first by its place (a TOKEN's first byte; the end's)", () -> {
      faulty("names 3; let ^11 = {d}; ? ; names 4;", 2);
      faulty("names 3; let 0 = {^d} ?", 2);
      faulty("names 3; let 0 = ^? + {d}", 1);
      faulty("names 3; weight a    ^123456;", 2);
      faulty("names 3; let 0 = {ab, ^abd};", 2);
      faulty("names 3; let 0 =^", 1);
      faulty("names 3; let 0 =   ^", 1);
      faulty("names^", 1);
      faulty("names 3; let 0 = {a\n\n^", 1);
      String full = "names 3;" + " ".repeat(600 - 8 - 3) + "let";
      TestKit.faulty(full, 1, 600);
    });
    sentence("of one place the least", () -> {
      // a 25th sign that can't stand there is 1, not 3
      faulty("names 1; let 0 = 0" + "+0".repeat(24) + "; let 1 = ^- 0;", 1);
      faulty("names 1; let 0 = 0" + "+0".repeat(23) + "+ ^+ 0;", 1);
      // a seventh bracket or word that can't stand there
      faulty("names 1; let 0 = ((((((0 ^(", 1);
      faulty("names 1; let 0 = ((((((0 ^min", 1);
      faulty("names 1; let 0 = (((((({^(", 1);
      faulty("names 1; let 0 = (((((({^min", 2);
      // an edge where no line can begin with it, more than names or not
      faulty("^edge 0 1;", 1);
      faulty("names 1; edge 0 1; let 0 = ^edge", 1);
      // a crossing that is twice there and out of its bounds is one fault
      faulty("names 1; edge ^8 8;", 2);
    });
  }

  private static void faultsOfKind1() {
    sentence("1 a TOKEN that is none, or can't stand there", () -> {
      faulty("names 3; ^? let 0 = {};", 1);
      faulty("names 3; let 0 ^{};", 1);
      faulty("names 3; let 0 = 1 ^1;", 1);
      faulty("names 3; let 0 = 1 ^all;", 1);
      faulty("names 3; let 0 = 1 ^{};", 1);
      faulty("names 3; let 0 = 1^);", 1);
      faulty("names 3; let 0 = ^a;", 1);
      faulty("names 3; let 0 = ^let;", 1);
      faulty("names 3; let 0 = 1^, 2;", 1);
      faulty("names 3; let ^a = 1;", 1);
      faulty("names 3; edge ^a 1;", 1);
      faulty("names 3; edge 0^;", 1);
      faulty("names 3; weight ^; a 1;", 1);
      faulty("names 3; weight a ^a;", 1);
      faulty("names ^;", 1);
      faulty("names 3 ^3;", 1);
      faulty("names 3; ^3;", 1);
      faulty("names 3; ^all;", 1);
    });
    sentence("(names behind the first LINE, another word ahead of it;", () -> {
      faulty("names 3; ^names 3;", 1);
      faulty("names 3; let 0 = ^names;", 1);
      String[] others = {"weight", "edge", "let", "all", "name", "namess", "games", "a"};
      for (String other : others) {
        faulty("^" + other + " 3;", 1);
      }
      String[] spoilt = {"xeight a 1", "weighs a 1", "adge 0 1", "edgy 0 1", "bet 0 = 1", "led 0 = 1"};
      for (String line : spoilt) {
        faulty("names 3; ^" + line + ";", 1);
      }
      String[] parts = {"xll", "alx", "xin 0", "mix 0", "xax 0", "man 0", "xit 0", "his 0", "xot 0", "now 0", "xp 0",
          "us 0", "xown 0", "dows 0"};
      for (String part : parts) {
        faulty("names 3; let 0 = ^" + part + ";", 1);
      }
    });
    sentence("a word in a SET with a letter that is no NAME is 2)", () -> {
      faulty("names 3; let 0 = {^d};", 2);
      faulty("names 3; let 0 = {^abcd};", 2);
      faulty("names 3; let 0 = {^names};", 2);
      faulty("names 3; let 0 = {^all};", 2);
      faulty("names 3; let 0 = {a,^min};", 2);
      faulty("names 10; let 0 = {^abk};", 2);
      fine("names 4; let 0 = {abcd};", 2);
    });
  }

  private static void faultsOfKind2() {
    sentence("2 a number out of its bounds (a 0 alone in a SET)", () -> {
      faulty("names ^0;", 2);
      faulty("names ^11;", 2);
      faulty("names 1; weight a ^100;", 2);
      faulty("names 1; edge ^8 1;", 2);
      faulty("names 1; edge 1 ^8;", 2);
      faulty("names 1; let ^10 = 0;", 2);
      faulty("names 1; let 0 = ^10;", 2);
      faulty("names 1; let 0 = {^1};", 2);
      faulty("names 1; let 0 = {0, ^9};", 2);
      faulty("names 1; let ^4294967296 = 0;", 2);
      faulty("names 1; let 0 = ^18446744073709551616;", 2);
      faulty("names 1; let 0 = {^4294967296};", 2);
      faulty("names 1; edge ^" + "9".repeat(300) + " 1;", 2);
      fine("names " + "0".repeat(300) + "1;", 1);
    });
    sentence("a NAME there is not", () -> {
      faulty("names 2; weight ^c 1;", 2);
      faulty("names 2; weight ^z 1;", 2);
      fine("names 2; weight b 1;", 2);
    });
    sentence("one twice in a SET", () -> {
      faulty("names 3; let 0 = {^aa};", 2);
      faulty("names 3; let 0 = {^abca};", 2);
      faulty("names 3; let 0 = {^cc};", 2);
      fine("names 3; let 0 = {a,a,ab,ba};", 2);
    });
    sentence("a CROSSING twice in an edge (at it)", () -> {
      faulty("names 3; edge 0 ^0;", 2);
      faulty("names 3; edge 5    ^5;", 2);
      faulty("names 3; edge 05 ^005;", 2);
      fine("names 3; edge 5 6; edge 5 6;", 3);
    });
  }

  private static void faultsOfKind3() {
    sentence("3 an edge more than NAMES, at its word", () -> {
      faulty("names 1; edge 0 1; ^edge 1 2;", 3);
      faulty("names 2; edge 0 1; edge 0 1; weight a 1; ^edge ?", 3);
      faulty("names 1; edge 0 1; ^edge", 3);
      fine("names 2; edge 0 1; edge 0 1; weight a 1;", 4);
    });
    sentence("a 25th sign of + - & * / % # in a text", () -> {
      for (char c : "+-&*/%#".toCharArray()) {
        String many = "names 1; let 0 = 0" + (c + "0").repeat(24);
        fine(many + ";", 2);
        faulty(many + "^" + c + "0;", 3);
        faulty(many + "^" + c, 3);
      }
      String half = "0" + "+0*0-0&0".repeat(3);
      fine("names 1; let 0 = " + half + "; let 1 = " + half + ";", 3);
      faulty("names 1; let 0 = " + half + "; let 1 = " + half + "; let 2 = 0 ^/ 0;", 3);
      fine("names 1; let 0 = " + half + "; let 1 = " + half + "; let 2 = (min {a,0,0,0});", 4);
      SharedBranch x = world("names 1; let 0 = " + half + "+" + half.substring(2) + ";");
      due("a text has its own", TestKit.put(x, 0, "{a}" + "+{a}".repeat(24)), 1);
      due("a put's 25th", TestKit.put(x, 0, "{a}" + "+{a}".repeat(25)), -4);
      due("its kind", x.fault(0), 3);
      due("its place", x.fault(1), 3 + 24 * 4);
    });
    sentence("a word min, max, hit, not, up, down or a sign ( within six others (at it)", () -> {
      for (String word : WORDS) {
        fine("names 1; let 0 = " + (word + " ").repeat(6) + "0;", 2);
        faulty("names 1; let 0 = " + (word + " ").repeat(6) + "^" + word + " 0;", 3);
        faulty("names 1; let 0 = ((((((^" + word, 3);
        faulty("names 1; let 0 = " + (word + " ").repeat(6) + "^(0);", 3);
      }
      fine("names 1; let 0 = ((((((0))))));", 2);
      faulty("names 1; let 0 = ((((((^(0)))))));", 3);
      faulty("names 1; let 0 = min(max(hit(^not 0)));", 3);
      fine("names 1; let 0 = min(max(hit(0)));", 2);
      fine("names 1; let 0 = ((((((all+{a}+0))))));", 2);
      fine("names 1; let 0 = ((((((0)+(0))+min 0)+(min 0))));", 2);
      fine("names 1; let 0 = " + "min ".repeat(6) + "0 + " + "max ".repeat(6) + "0;", 2);
    });
  }

  private static void slots() {
    sentence("SLOTS 0 .. 3 have rows of numbers of 1, 2, 4 or 8 bytes (WIDTH 0 .. 3), at most 60, or nothing", () -> {
      SharedBranch x = world("names 1;");
      for (int slot = 0; slot < 4; slot++) {
        due("nothing in slot " + slot, x.write(slot, 0, 0), -6);
        due("sixty in slot " + slot, x.row(slot, slot, 60), 0);
        due("the last of slot " + slot, x.write(slot, 59, 1), 0);
        due("beyond slot " + slot, x.write(slot, 60, 1), -7);
        due("sixty-one in slot " + slot, x.row(slot, slot, 61), -2);
      }
      due("slot 4", x.row(4, 0, 1), -2);
      due("slot -1", x.row(-1, 0, 1), -2);
      due("width 4", x.row(0, 4, 1), -2);
      due("width -1", x.row(0, -1, 1), -2);
      // 2 to the 8, 16, 32 is 0 in a row that is too small for it; 2 to the 63 in none
      int[] bits = {8, 16, 32};
      for (int width = 0; width < 3; width++) {
        x.row(0, width, 1);
        x.write(0, 0, (1L << bits[width]) + 1);
        due("width " + width + " is so small", x.takes(0, 0), 1);
        due("a is left of it", x.has(0, 1), 1);
        x.row(0, width + 1, 1);
        x.write(0, 0, (1L << bits[width]) + 1);
        due("width " + (width + 1) + " is so large", x.takes(0, 0), -2);
      }
    });
  }

  private static void orders() {
    sentence("ORDER: NAMES by places, 0 first; told a, b, .. at first", () -> {
      SharedBranch x = world("names 10;");
      for (int place = 0; place < 10; place++) {
        due("place " + place, x.order(place), place);
      }
      x.move(9, 0);
      due("j is first now", x.order(0), 9);
      TestKit.world(x, "names 10;");
      due("but not in another world", x.order(0), 0);
      TestKit.world(x, "names 10;");
      due("nor in a third one", x.order(0), 0);
    });
    sentence("those SETS of NAMES at this place or behind it that joined with it are of the FAMILY", () -> {
      // at a {a,ab,bc}; at b {0,b} by a, {bc} by none; at c {c} by b; by ab it is the empty set, by ac none
      SharedBranch x = world("names 3; let 0 = {a,ab,bc};");
      due("at a", x.wide(0, 0), 1);
      due("at b", x.wide(0, 1), 2);
      due("at c", x.wide(0, 2), 1);
    });
    sentence("NODES: all unlike PARTS of which some SET has the NAME that is at their place", () -> {
      SharedBranch x = world("names 4; let 0 = {}; let 1 = {0}; let 2 = all; let 3 = {d}; let 4 = {ad,bd,cd}; let 5 = {a};");
      int[] nodes = {0, 0, 4, 1, 4, 1};
      for (int p = 0; p < 6; p++) {
        due("nodes of " + p, x.nodes(p), nodes[p]);
      }
      SharedBranch ten = world("names 10; let 0 = all; let 1 = {abcdefghij};");
      due("of all sets", ten.nodes(0), 10);
      due("of the greatest", ten.nodes(1), 10);
      SharedBranch one = world("names 1; let 0 = {a}; let 1 = {0,a}; let 2 = {0};");
      due("{a}", one.nodes(0), 1);
      due("{0,a}", one.nodes(1), 1);
      due("together", one.net(), 2);
    });
  }

  private static void weights() {
    sentence("By number: SETS as bits, the least first", () -> {
      SharedBranch x = world("names 10; let 0 = {j,a,0,ij,abcdefghi};");
      int[] due = {0, 1, 511, 512, 768};
      for (int i = 0; i < 5; i++) {
        due("nth " + i, x.nth(0, i), due[i]);
        due("rank of it", x.rank(0, due[i]), i);
      }
    });
    sentence("By WEIGHT: the least WEIGHT first, of like ones the least number", () -> {
      SharedBranch x = world("names 3; weight a 2; weight b 1; weight c 1; let 0 = all;");
      int[] due = {0, 2, 4, 1, 6, 3, 5, 7};
      for (int i = 0; i < 8; i++) {
        due("light " + i, x.light(0, i), due[i]);
      }
      SharedBranch none = world("names 10; let 0 = all;");
      for (int k = 0; k < 10; k++) {
        none.weigh(k, 0);
      }
      int[] some = {0, 1, 63, 64, 511, 1022, 1023};
      for (int i : some) {
        due("all weigh nothing, " + i, none.light(0, i), i);
      }
      for (int k = 0; k < 10; k++) {
        none.weigh(k, 99);
      }
      due("all weigh 99, the first", none.light(0, 0), 0);
      due("the first of one name", none.light(0, 1), 1);
      due("the last of one name", none.light(0, 10), 512);
      due("the first of two names", none.light(0, 11), 3);
      due("the last", none.light(0, 1023), 1023);
      due("it weighs", none.weight(1023), 990);
    });
  }

  private static void waysAre(SharedBranch x, int from, int till, String want) {
    x.ways(0, from, till);
    TestKit.told("ways " + from + " " + till, x, 0, want);
  }

  private static void mapIs(String edges, int what, String want) {
    SharedBranch x = world(edges);
    int many = x.map(0, what);
    TestKit.told("map " + what + " of " + edges, x, 0, want);
    due("how many", many, x.size(0));
  }

  private static void maps() {
    sentence("none and no CROSSING twice (the empty SET, if they are one)", () -> {
      SharedBranch x = world("names 5; edge 0 1; edge 1 2; edge 2 0; edge 2 3;");
      waysAre(x, 0, 3, "abd,cd");
      waysAre(x, 0, 0, "0");
      waysAre(x, 3, 3, "0");
      waysAre(x, 7, 7, "0");
      waysAre(x, 0, 7, "");
      waysAre(x, 6, 7, "");
      waysAre(x, 2, 3, "d");
      waysAre(x, 3, 2, "d");
      // all eight crossings in a row, and the edge that closes it
      SharedBranch ring = world("names 10; edge 0 1; edge 1 2; edge 2 3; edge 3 4; edge 4 5; edge 5 6; edge 6 7; edge 7 0;");
      waysAre(ring, 0, 7, "abcdefg,h");
      waysAre(ring, 7, 0, "abcdefg,h");
      waysAre(ring, 0, 4, "abcd,efgh");
      waysAre(world("names 3; edge 0 1; edge 0 1; edge 1 0;"), 0, 1, "a,b,c");
      waysAre(world("names 1;"), 0, 1, "");
    });
    sentence("A TREE: EDGES by which all CROSSINGS that some EDGE joins hang together, without a ring", () -> {
      mapIs("names 5; edge 0 1; edge 1 2; edge 2 0; edge 2 3;", 0, "abd,acd,bcd");
      mapIs("names 2; edge 6 7;", 0, "a");
      mapIs("names 2; edge 6 7; edge 7 6;", 0, "a,b");
      mapIs("names 2; edge 0 1; edge 2 3;", 0, "");
      mapIs("names 3; edge 1 0; edge 1 0; edge 2 3;", 0, "");
      mapIs("names 3; edge 0 7; edge 0 7; edge 6 5;", 0, "");
      mapIs("names 4; edge 0 1; edge 1 2; edge 2 0; edge 6 7;", 0, "");
      mapIs("names 2;", 0, "0");
      mapIs("names 7; edge 7 6; edge 5 4; edge 3 2; edge 1 0; edge 2 1; edge 4 3; edge 6 5;", 0, "abcdefg");
    });
    sentence("PAIRS: EDGES no two of which share a CROSSING (none, too)", () -> {
      mapIs("names 5; edge 0 1; edge 1 2; edge 2 3; edge 3 0;", 1, "0,a,b,c,ac,d,bd");
      mapIs("names 2; edge 0 1; edge 1 0;", 1, "0,a,b");
      mapIs("names 4; edge 0 1; edge 2 3; edge 4 5; edge 6 7;", 1,
          "0,a,b,ab,c,ac,bc,abc,d,ad,bd,abd,cd,acd,bcd,abcd");
      mapIs("names 2;", 1, "0");
    });
    sentence("COVER: EDGES such that each CROSSING that some EDGE joins is joined by one of them", () -> {
      mapIs("names 5; edge 0 1; edge 1 2; edge 2 3; edge 3 0;", 2, "ac,abc,bd,abd,acd,bcd,abcd");
      mapIs("names 2; edge 0 1; edge 1 0;", 2, "a,b,ab");
      mapIs("names 2; edge 0 1; edge 2 3;", 2, "ab");
      mapIs("names 2;", 2, "0");
    });
    sentence("All: EDGES alone, no other NAMES", () -> {
      SharedBranch x = world("names 10; edge 0 1; edge 1 2; edge 2 0;");
      for (int what = 0; what < 3; what++) {
        x.map(what, what);
        due("map " + what, x.names(what, 1), 7);
      }
      x.ways(3, 0, 1);
      x.cuts(4, 0, 1);
      due("ways", x.names(3, 1), 7);
      due("cuts", x.names(4, 1), 7);
    });
  }

  private static void draws() {
    sentence("x is (1103515245 times the seed, and 12345) modulo 2,147,483,648", () -> {
      SharedBranch x = world("names 10; let 0 = all;");
      int[] seeds = {0, 1, 2, 3, 65535, 65536, 1000000, 1234567890, 1999999999, 2000000000};
      for (int seed : seeds) {
        long product = 1103515245L * seed + 12345L;
        long rest = product - product / 2147483648L * 2147483648L;
        due("seed " + seed, x.draw(0, seed), rest / 65536 % 1024);
      }
      // by hand: 1103515245 and 12345 are 1103527590; cut by 65536 that is 16838, 454 modulo 1024
      due("seed 1 by hand", x.draw(0, 1), 454);
      // 2 * 1103515245 and 12345 are 2207042835, 59559187 modulo 2,147,483,648; cut 908
      due("seed 2 by hand", x.draw(0, 2), 908);
    });
    sentence("the member whose place by number is x / 65536, cut, modulo how many there are", () -> {
      SharedBranch x = world("names 4; let 0 = {b}; let 1 = {0,d,abcd}; let 2 = {0};");
      for (int seed = 0; seed < 8; seed++) {
        due("one of one", x.draw(0, seed), 2);
        due("the empty one of one", x.draw(2, seed), 0);
      }
      int[] three = {0, 8, 15};
      due("seed 1 of three: 16838 modulo 3 is 2", x.draw(1, 1), three[2]);
      due("seed 2 of three: 908 modulo 3 is 2", x.draw(1, 2), three[2]);
      due("seed 0 of three: 0", x.draw(1, 0), three[0]);
    });
  }
}
