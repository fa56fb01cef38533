/** The sentences of promises 30 to 48 that name a boundary case, each with a test of its own. */
public final class OrderSentencesTest {
  private static final int MAX = Integer.MAX_VALUE;
  private static final int MIN = Integer.MIN_VALUE;

  public static void main(String[] args) {
    promise30();
    promise31();
    promises32And33();
    promise34();
    promise35();
    promise36();
    promise37();
    promise38();
    promises39And40();
    promise41();
    promise42();
    promise43();
    promises44And45();
    promise46();
    promise47();
    promise48();
    SentenceKit.finish("OrderSentencesTest");
  }

  private static void sentence(String quote, Runnable test) {
    SentenceKit.sentence(quote, test);
  }

  private static void due(String call, long got, long want) {
    TestKit.due(call, got, want);
  }

  private static void asks(String label, int want, StateKit.Call call) {
    StateKit.asks(label, want, call);
  }

  private static void noWorld(StateKit.Call call) {
    StateKit.asksBare("-2", -2, call);
  }

  private static void refuses(StateKit.Call... calls) {
    StateKit.refuses(-2, calls);
  }

  private static SharedBranch world(String text) {
    return TestKit.withWorld(text);
  }

  private static void orderIs(String what, SharedBranch x, String want) {
    StringBuilder got = new StringBuilder();
    for (int place = 0; place < x.count(0); place++) {
      got.append((char) ('a' + x.order(place)));
    }
    TestKit.due(what + ", the order", got.toString(), want);
  }

  private static void promise30() {
    SentenceKit.promise(30);
    sentence("NODES of a REGISTER (II)", () -> {
      // by c, a, b: {a,ab,bc} at c; without c {a,ab} at a; {0,b} and, with c, {b} at b
      asks("nodes(0)", 4, x -> x.nodes(0));
      asks("of {0,c}", 1, x -> x.nodes(1));
      asks("of {abc}", 3, x -> x.nodes(2));
      asks("of none", 0, x -> x.nodes(9));
      SharedBranch x = world("names 10; let 0 = all; let 1 = {0}; let 2 = {a,b,c,d,e,f,g,h,i,j};"
          + "let 3 = {0,af} * {0,bg} * {0,ch} * {0,di} * {0,ej}; let 4 = {abcdefghij};");
      int[] due = {10, 0, 10, 62, 10};
      for (int p = 0; p < 5; p++) {
        due("nodes(" + p + ")", x.nodes(p), due[p]);
      }
    });
    sentence("-2: there is none such, no WORLD", () -> {
      refuses(x -> x.nodes(10), x -> x.nodes(-1), x -> x.nodes(MAX), x -> x.nodes(MIN));
      noWorld(x -> x.nodes(0));
    });
  }

  /** An object and the model of it, of which the same is asked. */
  private static final class Twins {
    final SharedBranch x = new SharedBranch();
    final NaiveModel model = new NaiveModel();

    Twins(String world) {
      feed(world);
      due("the twins' world", x.world(), model.world());
    }

    private void feed(String text) {
      byte[] bytes = TestKit.bytesOf(text);
      TestKit.feed(x, bytes);
      for (int from = 0; from < bytes.length; from += 20) {
        int[] five = TestKit.fiveNumbers(bytes, from);
        model.feed(five[0], five[1], five[2], five[3], five[4]);
      }
      model.end(bytes.length);
    }

    void put(int p, String text) {
      feed(text);
      due("the twins' " + text, x.put(p), model.put(p));
    }
  }

  /** Ten unlike families of ten names, as wild as a few sums make them. */
  private static Twins wild() {
    Twins twins = new Twins("names 10; let 0 = {ab,cde,fg,hij,a,j} * {0,ac,bdf,egi,hj};");
    twins.put(1, "(up {abc,def,ghi,aj} - up {bcd,efg,hij}) + 0");
    twins.put(2, "(1 + down {acegi,bdfhj}) - {0,a,b,ac,bd} * {0,j,i}");
    twins.put(3, "(2 - 1) + (1 - 2) * {c,gh}");
    twins.put(4, "not 3 & (1 + 2)");
    for (int p = 5; p < 10; p++) {
      int name = p * 7 % 10;
      due("the twins' change", twins.x.change(p, p - 1, name), twins.model.change(p, p - 1, name));
      due("the twins' makes", twins.x.makes(p, p % 2, p, p - 4), twins.model.makes(p, p % 2, p, p - 4));
    }
    return twins;
  }

  private static void promise31() {
    SentenceKit.promise(31);
    sentence("NODES of all REGISTERS together (alike ones once)", () -> {
      due("all empty", world("names 5;").net(), 0);
      SharedBranch x = world("names 3; let 0 = {a,ab,bc}; let 1 = 0; let 9 = 0;");
      due("alike registers", x.net(), 4);
      due("as one alone", x.nodes(0), 4);
      TestKit.put(x, 5, "{c}");
      due("a part that is there", x.net(), 4);
      TestKit.put(x, 5, "{b}");
      due("one that is not", x.net(), 5);
      TestKit.put(x, 6, "{0}");
      due("the empty set has no node", x.net(), 5);
      asks("of the full object", 7, y -> y.net());
      Twins wild = wild();
      due("unlike ones", wild.x.count(5), 10);
      due("of ten wild ones", wild.x.net(), wild.model.net());
      TestKit.holds("they are many", wild.model.net() > 500);
      for (int p = 0; p < 10; p++) {
        due("of wild " + p, wild.x.nodes(p), wild.model.nodes(p));
      }
    });
    sentence("-2: no WORLD", () -> noWorld(x -> x.net()));
  }

  private static void promises32And33() {
    SentenceKit.promise(32);
    sentence("How many of its NODES are at a place", () -> {
      asks("the first place", 1, x -> x.wide(0, 0));
      asks("the second", 1, x -> x.wide(0, 1));
      asks("the last", 2, x -> x.wide(0, 2));
      asks("of none", 0, x -> x.wide(9, 0));
      asks("of {0,c} at c", 1, x -> x.wide(1, 0));
      asks("of {0,c} at b", 0, x -> x.wide(1, 2));
      SharedBranch x = world("names 10; let 0 = {0,af} * {0,bg} * {0,ch} * {0,di} * {0,ej}; let 1 = {a}; let 2 = {j};");
      int[] due = {1, 2, 4, 8, 16, 16, 8, 4, 2, 1};
      for (int place = 0; place < 10; place++) {
        due("wide(0, " + place + ")", x.wide(0, place), due[place]);
        due("{a} at " + place, x.wide(1, place), place == 0 ? 1 : 0);
        due("{j} at " + place, x.wide(2, place), place == 9 ? 1 : 0);
      }
    });
    sentence("-2: there are none such", () -> {
      refuses(x -> x.wide(10, 0), x -> x.wide(-1, 0), x -> x.wide(0, 3), x -> x.wide(0, -1), x -> x.wide(0, MAX),
          x -> x.wide(0, MIN));
      due("place 10", world("names 10;").wide(0, 10), -2);
      noWorld(x -> x.wide(0, 0));
    });
    SentenceKit.promise(33);
    sentence("The NAME at a place of the ORDER", () -> {
      asks("the first", 2, x -> x.order(0));
      asks("the second", 0, x -> x.order(1));
      asks("the last", 1, x -> x.order(2));
      due("the last of ten", world("names 10;").order(9), 9);
      due("the one of one", world("names 1;").order(0), 0);
    });
    sentence("-2: there is none such", () -> {
      refuses(x -> x.order(3), x -> x.order(-1), x -> x.order(MAX), x -> x.order(MIN));
      due("place 10", world("names 10;").order(10), -2);
      noWorld(x -> x.order(0));
    });
  }

  private static void promise34() {
    SentenceKit.promise(34);
    sentence("The NAMES at a place and at the next one change places: NODES of all REGISTERS together then", () -> {
      SharedBranch x = world("names 4; let 0 = {0,ac} * {0,bd};");
      due("at first", x.net(), 6);
      due("the middle", x.swap(1), 4);
      orderIs("the middle", x, "acbd");
      due("the first place", x.swap(0), 4);
      orderIs("the first place", x, "cabd");
      due("the last that has a next one", x.swap(2), 4);
      orderIs("the last that has a next one", x, "cadb");
      due("again", x.swap(2), 4);
      orderIs("again", x, "cabd");
      TestKit.told("families stay", x, 0, "0,ac,bd,abcd");
      SharedBranch two = world("names 2; let 0 = {a}; let 1 = {b}; let 2 = {ab}; let 3 = {a};");
      due("together, at first", two.net(), 3);
      due("together then", two.swap(0), 3);
      orderIs("two", two, "ba");
      SharedBranch full = StateKit.full();
      due("as net()", full.swap(1), full.net());
      Twins wild = wild();
      for (int place = 8; place >= 0; place--) {
        due("wild, " + place, wild.x.swap(place), wild.model.swap(place));
      }
      orderIs("wild", wild.x, "jabcdefghi");
    });
    sentence("-2: there is no such place, or no next one", () -> {
      refuses(x -> x.swap(2), x -> x.swap(3), x -> x.swap(-1), x -> x.swap(MAX), x -> x.swap(MIN), x -> x.swap(9));
      due("one name has no next one", world("names 1;").swap(0), -2);
      due("the last of ten", world("names 10;").swap(9), -2);
      due("the last but one of ten", world("names 10;").swap(8), 0);
      noWorld(x -> x.swap(0));
    });
  }

  private static void promise35() {
    SentenceKit.promise(35);
    sentence("A NAME goes to a place, the others as they stand: where it was", () -> {
      SharedBranch x = world("names 5;");
      due("to the end", x.move(0, 4), 0);
      orderIs("to the end", x, "bcdea");
      due("to the head", x.move(0, 0), 4);
      orderIs("to the head", x, "abcde");
      due("on", x.move(1, 3), 1);
      orderIs("on", x, "acdbe");
      due("back", x.move(4, 1), 4);
      orderIs("back", x, "aecdb");
      due("where it is", x.move(2, 2), 2);
      orderIs("where it is", x, "aecdb");
      asks("where it is", 0, y -> y.move(2, 0));
      due("one name", world("names 1;").move(0, 0), 0);
      SharedBranch ten = world("names 10;");
      due("j to the head", ten.move(9, 0), 9);
      orderIs("j to the head", ten, "jabcdefghi");
      due("a to the end", ten.move(0, 9), 1);
      orderIs("a to the end", ten, "jbcdefghia");
    });
    sentence("-2: there are none such", () -> {
      refuses(x -> x.move(3, 0), x -> x.move(-1, 0), x -> x.move(0, 3), x -> x.move(0, -1), x -> x.move(MAX, 0),
          x -> x.move(MIN, 0), x -> x.move(0, MAX), x -> x.move(0, MIN));
      due("name 10", world("names 10;").move(10, 0), -2);
      due("place 10", world("names 10;").move(0, 10), -2);
      noWorld(x -> x.move(0, 0));
    });
  }

  private static void bestIs(SharedBranch x, int p, int fewest, String order) {
    due("fewest of " + p, x.best(p, 0), fewest);
    for (int place = 0; place < order.length(); place++) {
      due("best of " + p + " at " + place, x.best(p, place + 1), order.charAt(place) - 'a');
    }
  }

  private static void promise36() {
    SentenceKit.promise(36);
    sentence("the fewest NODES of a REGISTER by all ORDERS (what 0), the NAME at place what - 1 of the first ORDER by which it"
        + " is (1 .. 10; by NAMES at place 0, then 1, ..; NONE: no such place)", () -> {
      Twins twins = new Twins("names 6; let 0 = {0,ad} * {0,be} * {0,cf}; let 1 = {}; let 2 = all; let 3 = {f}; "
          + "let 4 = {0,af,bf,cf,def}; let 5 = {ab,ce,def,bcf,acde,f};");
      SharedBranch x = twins.x;
      bestIs(x, 0, 6, "adbecf");
      bestIs(x, 1, 0, "abcdef");
      bestIs(x, 2, 6, "abcdef");
      bestIs(x, 3, 1, "abcdef");
      for (int what = 0; what <= 6; what++) {
        due("as the model, " + what, x.best(4, what), twins.model.best(4, what));
        due("as the model, too, " + what, x.best(5, what), twins.model.best(5, what));
      }
      for (int what = 7; what <= 10; what++) {
        due("no such place, " + what, x.best(0, what), -1);
      }
      x.move(5, 0);
      bestIs(x, 0, 6, "adbecf");
      orderIs("it is asked alone", x, "fabcde");
      asks("no place 3 of three names", -1, y -> y.best(0, 4));
      asks("no place 9 of three names", -1, y -> y.best(9, 10));
      asks("the last place", 2, y -> y.best(9, 3));
      // {a,ab,bc} by b, c, a: at b; {a,c} at c; {a} at a, which is the rest of both halves
      asks("of {a,ab,bc}", 3, y -> y.best(0, 0));
      bestIs(StateKit.full(), 0, 3, "bca");
      SharedBranch one = world("names 1; let 0 = {a}; let 1 = {0};");
      bestIs(one, 0, 1, "a");
      bestIs(one, 1, 0, "a");
      due("no second place", one.best(0, 2), -1);
      x.end(0);
      TestKit.world(x, "names 3; let 0 = {a,ab,bc};");
      bestIs(x, 0, 3, "bca");
      TestKit.world(x, "names 1; let 0 = {a};");
      bestIs(x, 0, 1, "a");
    });
    sentence("-3: there are more than six NAMES; -2: there are none such", () -> {
      SharedBranch seven = world("names 7; let 0 = {a};");
      for (int what = 0; what <= 10; what++) {
        due("seven names, " + what, seven.best(0, what), -3);
      }
      due("six names", world("names 6; let 0 = {a};").best(0, 0), 1);
      due("ten names", world("names 10;").best(0, 0), -3);
      due("seven names, what 11", seven.best(0, 11), -2);
      due("seven names, what -1", seven.best(0, -1), -2);
      due("seven names, register 10", seven.best(10, 0), -2);
      refuses(x -> x.best(10, 0), x -> x.best(-1, 0), x -> x.best(0, 11), x -> x.best(0, -1), x -> x.best(0, MAX),
          x -> x.best(0, MIN));
      noWorld(x -> x.best(0, 0));
      noWorld(x -> x.best(0, 10));
    });
  }

  private static void promise37() {
    SentenceKit.promise(37);
    sentence("NAME by NAME from 0 on goes to the place by which the REGISTER has the fewest NODES, the first of several: how"
        + " many it has then (the ORDER is so then)", () -> {
      SharedBranch x = world("names 3;");
      due("of none", x.sift(0), 0);
      // each goes to the head in turn, all places being alike
      orderIs("of none", x, "cba");
      due("of none again", x.sift(0), 0);
      orderIs("of none again", x, "cba");
      SharedBranch y = world("names 4; let 0 = {0,ac} * {0,bd};");
      due("of two pairs", y.sift(0), 4);
      // a stays; b goes behind c; c to the head; d between a and b, which is the first place by which it has 4
      orderIs("of two pairs", y, "cadb");
      due("it has as many then", y.nodes(0), 4);
      TestKit.told("families stay", y, 0, "0,ac,bd,abcd");
      SharedBranch one = world("names 1; let 0 = {a};");
      due("one name", one.sift(0), 1);
      orderIs("one name", one, "a");
      Twins pairs = new Twins("names 10; let 0 = {0,af} * {0,bg} * {0,ch} * {0,di} * {0,ej}; let 1 = {ab,cde,fgh,aij,ch};");
      for (int p = 0; p < 2; p++) {
        due("ten names", pairs.x.sift(p), pairs.model.sift(p));
        for (int place = 0; place < 10; place++) {
          due("ten names, place " + place, pairs.x.order(place), pairs.model.order(place));
        }
      }
    });
    sentence("-2: there is no such REGISTER, no WORLD", () -> {
      refuses(x -> x.sift(10), x -> x.sift(-1), x -> x.sift(MAX), x -> x.sift(MIN));
      noWorld(x -> x.sift(0));
    });
  }

  private static void promise38() {
    SentenceKit.promise(38);
    sentence("A REGISTER is all WAYS between two CROSSINGS (0 .. 7): how many", () -> {
      SharedBranch x = world("names 10; edge 0 1; edge 1 2; edge 2 3; edge 3 4; edge 4 5; edge 5 6; edge 6 7; edge 7 0; edge 0 4;"
          + "let 5 = all;");
      due("0 to 7", x.ways(5, 0, 7), 3);
      TestKit.told("0 to 7", x, 5, "abcdefg,h,efgi");
      due("7 to 0", x.ways(5, 7, 0), 3);
      due("0 to 0", x.ways(5, 0, 0), 1);
      due("7 to 7", x.ways(5, 7, 7), 1);
      TestKit.told("the empty set", x, 5, "0");
      SharedBranch none = world("names 1; let 0 = all;");
      due("no edges", none.ways(0, 0, 1), 0);
      due("it is empty then", none.size(0), 0);
      due("no edges, one crossing", none.ways(0, 5, 5), 1);
      TestKit.world(x, "names 10; edge 5 6;");
      due("another world", x.ways(0, 0, 7), 0);
      TestKit.world(x, "names 10; edge 5 6;");
      due("a third world", x.ways(0, 0, 7), 0);
      TestKit.world(x, "names 10;");
      due("a fourth one", x.ways(0, 5, 6), 0);
      // four crossings, each joined with each
      SharedBranch four = world("names 6; edge 0 1; edge 0 2; edge 0 3; edge 1 2; edge 1 3; edge 2 3;");
      due("each joined with each", four.ways(9, 0, 3), 5);
    });
    sentence("-2: there are none such, no WORLD", () -> {
      refuses(x -> x.ways(10, 0, 1), x -> x.ways(-1, 0, 1), x -> x.ways(5, 8, 1), x -> x.ways(5, -1, 1), x -> x.ways(5, 0, 8),
          x -> x.ways(5, 0, -1), x -> x.ways(5, 8, 8), x -> x.ways(5, -1, -1), x -> x.ways(5, MAX, 0), x -> x.ways(5, 0, MIN));
      noWorld(x -> x.ways(0, 0, 1));
      noWorld(x -> x.ways(0, 0, 0));
    });
  }

  private static void promises39And40() {
    SentenceKit.promise(39);
    sentence("A REGISTER is what 0: all TREES, 1: all PAIRS, 2: all COVERS: how many SETS", () -> {
      SharedBranch x = world("names 6; edge 0 1; edge 0 2; edge 0 3; edge 1 2; edge 1 3; edge 2 3; let 0 = all;");
      due("trees of four crossings", x.map(0, 0), 16);
      due("each of three edges", x.level(1, 0, 3), 16);
      due("pairs of four crossings", x.map(0, 1), 10);
      due("covers of four crossings", x.map(0, 2), 41);
      SharedBranch none = world("names 1; let 0 = {a};");
      for (int what = 0; what < 3; what++) {
        due("without edges, " + what, none.map(0, what), 1);
        TestKit.told("the empty set alone", none, 0, "0");
      }
      SharedBranch apart = world("names 3; edge 0 1; edge 2 3; let 0 = all;");
      due("trees of two lands", apart.map(0, 0), 0);
      due("it is empty then", apart.size(0), 0);
    });
    sentence("-2 likewise", () -> {
      refuses(x -> x.map(10, 0), x -> x.map(-1, 0), x -> x.map(5, 3), x -> x.map(5, -1), x -> x.map(5, MAX), x -> x.map(5, MIN));
      noWorld(x -> x.map(0, 0));
      noWorld(x -> x.map(0, 1));
    });
    SentenceKit.promise(40);
    sentence("A REGISTER is all least hits (I) of all WAYS between two CROSSINGS: how many", () -> {
      SharedBranch x = world("names 6; edge 0 1; edge 1 2; edge 2 3; edge 3 0; edge 1 3; let 0 = all;");
      due("0 to 2", x.cuts(0, 0, 2), 4);
      TestKit.told("0 to 2", x, 0, "bc,ad,ace,bde");
      due("2 to 0", x.cuts(1, 2, 0), 4);
      due("the same", x.alike(0, 1), 1);
      due("one crossing: nothing hits the empty set", x.cuts(0, 0, 0), 0);
      due("it is empty then", x.size(0), 0);
      due("no way: the empty set", x.cuts(0, 0, 7), 1);
      TestKit.told("no way", x, 0, "0");
      due("no edges", world("names 1;").cuts(0, 0, 1), 1);
    });
    sentence("-2 likewise", () -> {
      refuses(x -> x.cuts(10, 0, 1), x -> x.cuts(-1, 0, 1), x -> x.cuts(5, 8, 1), x -> x.cuts(5, -1, 1), x -> x.cuts(5, 0, 8),
          x -> x.cuts(5, 0, -1), x -> x.cuts(5, 8, 8), x -> x.cuts(5, MIN, MAX));
      noWorld(x -> x.cuts(0, 0, 1));
    });
  }

  /** A row of these numbers in slot 3. */
  private static void rowOf(SharedBranch x, int width, long... numbers) {
    x.row(3, width, numbers.length);
    for (int i = 0; i < numbers.length; i++) {
      x.write(3, i, numbers[i]);
    }
  }

  private static void judged(int p, int want, long... numbers) {
    SharedBranch x = StateKit.full();
    rowOf(x, 3, numbers);
    due("judge of " + java.util.Arrays.toString(numbers) + " by " + p, x.judge(3, p), want);
  }

  private static void promise41() {
    SentenceKit.promise(41);
    sentence("the first place at which it is not as a REGISTER has them; as many as there are, if it is that all along (and the"
        + " REGISTER has no more); NONE, if the REGISTER has more", () -> {
      asks("all along", 3, x -> x.judge(0, 0));
      asks("another one, all along", 2, x -> x.judge(1, 1));
      asks("no numbers, no sets", 0, x -> x.judge(2, 9));
      asks("no numbers, some sets", -1, x -> x.judge(2, 0));
      asks("not at 0", 0, x -> x.judge(0, 1));
      asks("numbers, no sets", 0, x -> x.judge(0, 9));
      judged(0, -1, 1);
      judged(0, -1, 1, 3);
      judged(0, 3, 1, 3, 6);
      judged(0, 3, 1, 3, 6, 6);
      judged(0, 3, 1, 3, 6, 7);
      judged(0, 1, 1, 6, 3);
      judged(0, 1, 1, 1);
      judged(0, 0, 2);
      judged(0, 2, 1, 3, 5);
      judged(0, 2, 1, 3, 7);
      judged(1, 0, 4, 0);
      judged(1, -1, 0);
      judged(1, 0, -1);
      judged(1, 1, 0, 4294967300L);
      judged(1, 0, 4294967296L);
      judged(1, 0, Long.MIN_VALUE);
      judged(9, 0, 0);
      judged(1, -1);
      SharedBranch empty = world("names 3; let 0 = {0};");
      empty.row(0, 0, 0);
      due("no numbers, the empty set", empty.judge(0, 0), -1);
      SharedBranch x = world("names 10; let 0 = down {abcdef} - {0,a,b,ab};");
      x.row(0, 0, 60);
      for (int i = 0; i < 60; i++) {
        x.write(0, i, i + 4);
      }
      due("sixty, all along", x.judge(0, 0), 60);
      x.sets(0, 1023, true);
      due("sixty, and one more", x.judge(0, 0), -1);
      x.write(0, 59, 5);
      due("not at the last", x.judge(0, 0), 59);
      // 200 does not go into a byte: the number is -56
      rowOf(x, 0, 200);
      TestKit.put(x, 1, "{dgh}");
      due("200 is a set", x.has(1, 200), 1);
      due("but not of a byte", x.judge(3, 1), 0);
      rowOf(x, 1, 200);
      due("of two bytes it is", x.judge(3, 1), 1);
    });
    sentence("-2: there are none such, no WORLD; -6: the SLOT has nothing", () -> {
      refuses(x -> x.judge(4, 0), x -> x.judge(-1, 0), x -> x.judge(0, 10), x -> x.judge(0, -1), x -> x.judge(3, 10),
          x -> x.judge(MAX, 0), x -> x.judge(MIN, 0), x -> x.judge(0, MAX));
      asks("nothing", -6, x -> x.judge(3, 0));
      asks("nothing, no sets", -6, x -> x.judge(3, 9));
      noWorld(x -> x.judge(0, 0));
      noWorld(x -> x.judge(3, 0));
    });
  }

  private static void promise42() {
    SentenceKit.promise(42);
    sentence("A REGISTER is all SETS of a SLOT's row: how many", () -> {
      SharedBranch x = StateKit.full();
      due("three", x.takes(9, 0), 3);
      TestKit.told("three", x, 9, "a,ab,bc");
      due("none", x.takes(9, 2), 0);
      due("it is empty then", x.size(9), 0);
      rowOf(x, 0, 7, 0, 7, 7);
      due("twice is once", x.takes(9, 3), 2);
      TestKit.told("twice is once", x, 9, "0,abc");
      SharedBranch ten = world("names 10;");
      rowOf(ten, 1, 1023, 0, 512);
      due("of ten names", ten.takes(0, 3), 3);
      ten.row(0, 3, 60);
      for (int i = 0; i < 60; i++) {
        ten.write(0, i, 17 * i);
      }
      due("sixty", ten.takes(0, 0), 60);
    });
    sentence("-2: there are none such, no WORLD, a number is no SET (asked last; it stays then); -6 likewise", () -> {
      refuses(x -> x.takes(10, 0), x -> x.takes(-1, 0), x -> x.takes(0, 4), x -> x.takes(0, -1), x -> x.takes(10, 3),
          x -> x.takes(MAX, 0), x -> x.takes(0, MIN));
      asks("nothing", -6, x -> x.takes(0, 3));
      noWorld(x -> x.takes(0, 0));
      noWorld(x -> x.takes(0, 3));
      long[] wrong = {8, -1, 1024, 4294967296L, 4294967297L, Long.MAX_VALUE, Long.MIN_VALUE};
      for (long number : wrong) {
        SharedBranch x = StateKit.full();
        rowOf(x, 3, 7, number, 0);
        due("a number " + number, x.takes(0, 3), -2);
        TestKit.told("it stays then", x, 0, "a,ab,bc");
        due("the slot stays, too", x.write(3, 2, 0), 0);
      }
      SharedBranch ten = world("names 10; let 0 = {a};");
      rowOf(ten, 1, 1024);
      due("1024 of ten names", ten.takes(0, 3), -2);
      rowOf(ten, 0, 128);
      due("128 in a byte is below 0", ten.takes(0, 3), -2);
      rowOf(ten, 0, 127);
      due("127 in a byte", ten.takes(0, 3), 1);
    });
  }

  private static void promise43() {
    SentenceKit.promise(43);
    sentence("0 NAMES, 1 LINES, 2 EDGES, 3 bytes of the TAPE, 4 REGISTERS that are not empty (bits), 5 unlike FAMILIES of"
        + " REGISTERS, 6 SLOTS that have a row", () -> {
      int[] due = {3, 9, 3, 12, 7, 4, 3};
      for (int what = 0; what < 7; what++) {
        int asked = what;
        asks("count(" + what + ")", due[what], x -> x.count(asked));
      }
      int[] bare = {0, 0, 0, 21, 0, 0, 3};
      for (int what = 0; what < 7; what++) {
        int asked = what;
        StateKit.asksBareOnly("count(" + what + ")", bare[what], x -> x.count(asked));
        due("new, count(" + what + ")", new SharedBranch().count(what), 0);
      }
      SharedBranch x = world("names 10;" + "edge 0 1;".repeat(10) + "let 0=all;let 9={0};");
      due("ten names", x.count(0), 10);
      due("thirteen lines", x.count(1), 13);
      due("ten edges", x.count(2), 10);
      due("the first and the last register", x.count(4), 513);
      due("all, the empty set, none", x.count(5), 3);
      x.turn(9, 6, 0);
      due("alike ones", x.count(5), 2);
      x.sets(9, 1023, false);
      due("unlike in the last set", x.count(5), 3);
      due("all are empty", world("names 1;").count(5), 1);
      for (int p = 0; p < 10; p++) {
        x.turn(p, 6, 0);
        x.sets(p, p, false);
      }
      due("ten filled", x.count(4), 1023);
      due("ten unlike", x.count(5), 10);
      for (int slot = 0; slot < 4; slot++) {
        due("rows", x.count(6), slot);
        x.row(slot, 0, 0);
      }
      due("four rows", x.count(6), 4);
      x.row(0, 1, 5);
      due("in place of another", x.count(6), 4);
    });
    sentence("NONE for others", () -> {
      int[] others = {7, 8, -1, MAX, MIN};
      for (int what : others) {
        asks("count(" + what + ")", -1, x -> x.count(what));
        StateKit.asksBare("count(" + what + ")", -1, x -> x.count(what));
      }
    });
  }

  private static void promises44And45() {
    SentenceKit.promise(44);
    sentence("IMAGE k (0 .. 2) keeps all but the TAPE, the FAULT and SLOTS: 0", () -> {
      for (int k = 0; k < 3; k++) {
        SharedBranch x = StateKit.full();
        due("keep(" + k + ")", x.keep(k), 0);
        due("the tape stays", x.count(3), 12);
        due("the fault stays", x.fault(1), 2);
        due("rows stay", x.judge(0, 0), 3);
        due("registers stay", x.count(4), 7);
        due("others stay", x.back((k + 1) % 3), k == 0 ? 0 : -6);
      }
      SharedBranch y = StateKit.full();
      y.keep(1);
      y.back(1);
      due("in place of another image", y.count(0), 3);
      due("without a world", StateKit.bare().keep(0), 0);
    });
    sentence("-2: no such k", () -> {
      refuses(x -> x.keep(3), x -> x.keep(-1), x -> x.keep(MAX), x -> x.keep(MIN));
      noWorld(x -> x.keep(3));
    });
    SentenceKit.promise(45);
    sentence("All that is as IMAGE k has it: 0", () -> {
      for (int k = 0; k < 3; k++) {
        SharedBranch x = StateKit.full();
        x.end(0);
        x.keep(k);
        TestKit.world(x, "names 10; weight a 50; edge 5 6; edge 6 7; edge 3 4; edge 2 1; let 0 = all; let 9 = {j}; let 1 = {i};");
        x.sift(0);
        TestKit.world(x, "names 9; weight b 40; edge 3 6; let 8 = all;");
        x.row(0, 2, 1);
        TestKit.put(x, 0, "? ?");
        TestKit.feed(x, "abc");
        due("back(" + k + ")", x.back(k), 0);
        due("names", x.count(0), 3);
        due("lines", x.count(1), 9);
        due("edges", x.count(2), 3);
        due("registers", x.count(4), 7);
        orderIs("back", x, "cab");
        int[] weights = {5, 1, 0};
        for (int name = 0; name < 3; name++) {
          due("weight of " + name, x.weight(1 << name), weights[name]);
        }
        String[] families = {"a,ab,bc", "0,c", "abc"};
        for (int p = 0; p < 3; p++) {
          TestKit.told("register " + p, x, p, families[p]);
        }
        int[][] ends = {{0, 1}, {1, 2}, {2, 0}};
        String[] ways = {"a,bc", "b,ac", "ab,c"};
        for (int e = 0; e < 3; e++) {
          x.ways(9, ends[e][0], ends[e][1]);
          TestKit.told("edge " + e, x, 9, ways[e]);
        }
        due("not the tape", x.count(3), 3);
        due("not the fault", x.fault(0), 1);
        due("not its place", x.fault(1), 0);
        due("not the rows", x.write(0, 1, 0), -7);
        x.weigh(0, 33);
        x.move(0, 0);
        x.sets(0, 0, true);
        due("once more", x.back(k), 0);
        due("the image is as it was kept, its registers", x.size(0), 3);
        due("its weights", x.weight(1), 5);
        orderIs("its order", x, "cab");
      }
      SharedBranch y = StateKit.bare();
      y.world();
      due("a world", y.count(0), 3);
      due("back to none", y.back(1), 0);
      due("there is none then", y.count(0), 0);
      due("no register", y.size(0), -2);
      due("no lines", y.count(1), 0);
      due("no filled ones", y.count(4), 0);
    });
    sentence("-2: no such k; -6: it has nothing", () -> {
      refuses(x -> x.back(3), x -> x.back(-1), x -> x.back(MAX), x -> x.back(MIN));
      asks("back(0)", -6, x -> x.back(0));
      asks("back(2)", -6, x -> x.back(2));
      noWorld(x -> x.back(3));
      StateKit.asksBare("back(0)", -6, x -> x.back(0));
    });
  }

  private static void promise46() {
    SentenceKit.promise(46);
    sentence("A SLOT (0 .. 3) has a row of n numbers of a WIDTH, all 0 (in place of another one): 0", () -> {
      SharedBranch x = world("names 10;");
      for (int slot = 0; slot < 4; slot++) {
        for (int width = 0; width < 4; width++) {
          due("row of sixty", x.row(slot, width, 60), 0);
          due("all 0", x.takes(0, slot), 1);
          due("it is 0", x.has(0, 0), 1);
          due("the last is 1", x.write(slot, 59, 1), 0);
          due("0 and 1", x.takes(0, slot), 2);
        }
        due("none", x.row(slot, 0, 0), 0);
        due("no number", x.write(slot, 0, 0), -7);
        due("of none no set", x.takes(0, slot), 0);
        due("one", x.row(slot, 0, 1), 0);
        due("that is 0", x.takes(0, slot), 1);
        due("no second", x.write(slot, 1, 0), -7);
      }
      x.row(0, 0, 60);
      x.write(0, 30, 9);
      x.row(0, 0, 31);
      due("shorter, all 0", x.takes(0, 0), 1);
      x.row(0, 0, 60);
      due("longer again, all 0", x.takes(0, 0), 1);
    });
    sentence("-2: there is no such SLOT or WIDTH (0 .. 3), or n is above 60; -3, and the SLOT stays: n is below 0", () -> {
      refuses(x -> x.row(4, 0, 1), x -> x.row(-1, 0, 1), x -> x.row(0, 4, 1), x -> x.row(0, -1, 1), x -> x.row(0, 0, 61),
          x -> x.row(0, 0, MAX), x -> x.row(4, 0, -1), x -> x.row(0, 4, -1), x -> x.row(-1, 0, MIN), x -> x.row(0, -1, MIN),
          x -> x.row(MAX, 0, 1), x -> x.row(0, MAX, 1), x -> x.row(MIN, 0, 1), x -> x.row(3, 0, 61));
      StateKit.refuses(-3, x -> x.row(0, 0, -1), x -> x.row(0, 3, -1), x -> x.row(0, 1, MIN), x -> x.row(3, 0, -1),
          x -> x.row(2, 0, -60));
      StateKit.asksBare("row(0, 0, -1)", -3, x -> x.row(0, 0, -1));
      StateKit.asksBare("row(0, 0, 61)", -2, x -> x.row(0, 0, 61));
    });
  }

  /** What is left of a number in a row: asked of rows by judge, bit by bit in a register. */
  private static void cutIs(int width, long v, int want) {
    SharedBranch x = world("names 10;");
    rowOf(x, width, v);
    int taken = x.takes(0, 3);
    due(v + " of width " + width, taken < 0 ? -1 : x.nth(0, 0), want);
  }

  private static void promise47() {
    SentenceKit.promise(47);
    sentence("Number i of the SLOT's row is v, cut to its WIDTH: 0", () -> {
      int[] bits = {8, 16, 32, 64};
      for (int width = 0; width < 4; width++) {
        cutIs(width, 0, 0);
        cutIs(width, 127, 127);
        cutIs(width, -1, -1);
        if (bits[width] < 64) {
          long beyond = 1L << bits[width];
          cutIs(width, beyond, 0);
          cutIs(width, beyond + 5, 5);
          cutIs(width, -beyond, 0);
          cutIs(width, -beyond + 77, 77);
          cutIs(width, beyond - 1, -1);
          cutIs(width, beyond / 2, -1);
          cutIs(width, Long.MIN_VALUE + 3, 3);
          cutIs(width, Long.MAX_VALUE, -1);
        }
      }
      cutIs(0, 128, -1);
      cutIs(0, 255, -1);
      cutIs(0, 1023, -1);
      cutIs(0, 513, 1);
      cutIs(1, 128, 128);
      cutIs(1, 1023, 1023);
      cutIs(1, 1024, -1);
      cutIs(2, 65536, -1);
      cutIs(3, 4294967296L, -1);
      SharedBranch x = StateKit.full();
      due("the first", x.write(0, 0, 0), 0);
      due("the last", x.write(0, 2, 7), 0);
      x.takes(9, 0);
      TestKit.told("the middle one stays", x, 9, "0,ab,abc");
      due("the other slot stays", x.judge(1, 1), 2);
    });
    sentence("-2: there is no such SLOT; -6: it has nothing; -7: there is no such number", () -> {
      refuses(x -> x.write(4, 0, 1), x -> x.write(-1, 0, 1), x -> x.write(MAX, 0, 1), x -> x.write(MIN, -1, 1));
      StateKit.refuses(-6, x -> x.write(3, 0, 1), x -> x.write(3, -1, 1), x -> x.write(3, 60, 1));
      StateKit.refuses(-7, x -> x.write(0, 3, 5), x -> x.write(0, -1, 5), x -> x.write(2, 0, 5), x -> x.write(1, 2, 5),
          x -> x.write(0, MAX, 5), x -> x.write(0, MIN, 5), x -> x.write(0, 60, 5));
      due("new, nothing", new SharedBranch().write(0, 0, 1), -6);
      noWorld(x -> x.write(4, 0, 1));
    });
  }

  /** Numbers in slot 0 and slot 1 of one width, as they are behind a paste. */
  private static void pasteIs(int i, int to, int k, int n, String zero, String one) {
    SharedBranch x = world("names 10;");
    x.row(0, 1, 6);
    x.row(1, 1, 4);
    for (int j = 0; j < 6; j++) {
      x.write(0, j, j + 1);
    }
    for (int j = 0; j < 4; j++) {
      x.write(1, j, j + 11);
    }
    String call = "paste(0, " + i + ", " + to + ", " + k + ", " + n + ")";
    due(call, x.paste(0, i, to, k, n), 0);
    TestKit.due(call + " slot 0", numbers(x, 0, 6), zero);
    TestKit.due(call + " slot 1", numbers(x, 1, 4), one);
  }

  private static String numbers(SharedBranch x, int slot, int many) {
    StringBuilder all = new StringBuilder();
    x.row(3, 1, 1);
    for (int j = 0; j < many; j++) {
      x.paste(slot, j, 3, 0, 1);
      x.takes(9, 3);
      all.append(j > 0 ? " " : "").append(x.nth(9, 0));
    }
    return all.toString();
  }

  private static void promise48() {
    SentenceKit.promise(48);
    sentence("So many numbers of a SLOT's row, from one on, are put to another one's (or its own), from one on, as they were: 0", () -> {
      pasteIs(0, 1, 0, 4, "1 2 3 4 5 6", "1 2 3 4");
      pasteIs(2, 1, 0, 4, "1 2 3 4 5 6", "3 4 5 6");
      pasteIs(5, 1, 3, 1, "1 2 3 4 5 6", "11 12 13 6");
      pasteIs(0, 1, 0, 0, "1 2 3 4 5 6", "11 12 13 14");
      pasteIs(6, 1, 4, 0, "1 2 3 4 5 6", "11 12 13 14");
      pasteIs(0, 0, 1, 5, "1 1 2 3 4 5", "11 12 13 14");
      pasteIs(1, 0, 0, 5, "2 3 4 5 6 6", "11 12 13 14");
      pasteIs(0, 0, 2, 3, "1 2 1 2 3 6", "11 12 13 14");
      pasteIs(0, 0, 0, 6, "1 2 3 4 5 6", "11 12 13 14");
      SharedBranch x = world("names 10;");
      for (int width = 0; width < 4; width++) {
        x.row(0, width, 60);
        x.row(1, width, 60);
        x.write(0, 59, 77);
        due("sixty of width " + width, x.paste(0, 0, 1, 0, 60), 0);
        x.takes(0, 1);
        TestKit.due("sixty of width " + width, x.nth(0, 0) + " " + x.nth(0, 1), "0 77");
      }
    });
    sentence("-2: there is no such SLOT; -6: one has nothing; -8: they are not of one WIDTH; -7, and nothing happens: some are"
        + " beyond their rows, or a place or n is below 0", () -> {
      refuses(x -> x.paste(4, 0, 0, 0, 1), x -> x.paste(-1, 0, 0, 0, 1), x -> x.paste(0, 0, 4, 0, 1), x -> x.paste(0, 0, -1, 0, 1),
          x -> x.paste(3, 0, 4, 0, 1), x -> x.paste(4, 0, 3, 0, 1), x -> x.paste(MAX, 0, 0, 0, 0), x -> x.paste(0, 0, MIN, 0, 0));
      StateKit.refuses(-6, x -> x.paste(3, 0, 0, 0, 1), x -> x.paste(0, 0, 3, 0, 1), x -> x.paste(3, 0, 3, 0, 0),
          x -> x.paste(3, -1, 0, 0, -1), x -> x.paste(0, 9, 3, 9, 9), x -> x.paste(2, 0, 3, 0, 0));
      StateKit.refuses(-8, x -> x.paste(0, 0, 2, 0, 0), x -> x.paste(2, 0, 0, 0, 0), x -> x.paste(0, -1, 2, 0, 1),
          x -> x.paste(0, 0, 2, 9, 9), x -> x.paste(2, 0, 1, 0, -1));
      StateKit.refuses(-7, x -> x.paste(0, 0, 1, 0, 3), x -> x.paste(0, 2, 1, 0, 2), x -> x.paste(0, 0, 1, 1, 2),
          x -> x.paste(0, -1, 1, 0, 1), x -> x.paste(0, 0, 1, -1, 1), x -> x.paste(0, 0, 1, 0, -1), x -> x.paste(0, 0, 0, 1, 3),
          x -> x.paste(0, 4, 1, 0, 0), x -> x.paste(0, 0, 1, 3, 0), x -> x.paste(0, 3, 1, 0, 1), x -> x.paste(0, 1, 1, 0, MAX),
          x -> x.paste(0, MAX, 1, 0, 1), x -> x.paste(0, 0, 1, MAX, 1), x -> x.paste(0, MAX, 1, MAX, MAX),
          x -> x.paste(0, MIN, 1, 0, 1), x -> x.paste(0, 0, 1, 0, MIN), x -> x.paste(2, 0, 2, 0, 1), x -> x.paste(0, -1, 1, -1, 0));
      due("new, nothing", new SharedBranch().paste(0, 0, 1, 0, 0), -6);
      noWorld(x -> x.paste(4, 0, 0, 0, 0));
    });
  }
}
