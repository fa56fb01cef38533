/** Objects with something in every part of them, and all that can be read of an object as one text. */
final class StateKit {
  interface Call {
    int on(SharedBranch x);
  }

  private static final String FULL = read(full());
  private static final String BARE = read(bare());

  private StateKit() {}

  /**
   * Three names; weights a 5, b 1, c 0; a triangle of edges; 0: a, ab, bc; 1: 0, c; 2: abc; order c, a, b;
   * rows as registers 0 and 1 in slots 0 and 1, an empty one in slot 2, nothing in slot 3; an image 1 of another
   * world; a fault 1 at 2; a sum on the tape.
   */
  static SharedBranch full() {
    SharedBranch x = new SharedBranch();
    TestKit.world(x, "names 2; edge 6 7; let 3 = {b};");
    x.swap(0);
    x.weigh(1, 9);
    x.keep(1);
    TestKit.world(x, "names 3; weight a 5; weight c 0; edge 0 1; edge 1 2; edge 2 0;"
        + "let 0 = {a,ab,bc}; let 1 = {0,c}; let 2 = {abc};");
    x.move(2, 0);
    fillRows(x);
    TestKit.put(x, 5, "0 ?");
    TestKit.feed(x, "{a,bc} + {0}");
    return x;
  }

  /** No world, but rows, an image of no world, a fault 2 at 6, a world on the tape. */
  static SharedBranch bare() {
    SharedBranch x = new SharedBranch();
    fillRows(x);
    x.keep(1);
    TestKit.world(x, "names 0;");
    TestKit.feed(x, "names 3; let 1={abc};");
    return x;
  }

  private static void fillRows(SharedBranch x) {
    x.row(0, 1, 3);
    x.write(0, 0, 1);
    x.write(0, 1, 3);
    x.write(0, 2, 6);
    x.row(1, 1, 2);
    x.write(1, 1, 4);
    x.row(2, 3, 0);
  }

  /** Uses the object up: what is read of it goes through its tape and its registers. */
  static String read(SharedBranch x) {
    StringBuilder all = new StringBuilder();
    all.append("fault ").append(x.fault(0)).append(' ').append(x.fault(1));
    all.append(" tape ").append(x.count(3));
    readWorld(all, x);
    all.append(" read ").append(x.count(0) > 0 ? x.put(9) : x.world());
    all.append(' ').append(TestKit.told(x, x.count(0) > 0 ? 9 : 1));
    readRows(all, x);
    readImages(all, x);
    return all.toString();
  }

  /** All but the tape and the fault. */
  static String readRest(SharedBranch x) {
    StringBuilder all = new StringBuilder();
    readWorld(all, x);
    readRows(all, x);
    readImages(all, x);
    return all.toString();
  }

  private static void readWorld(StringBuilder all, SharedBranch x) {
    all.append(" names ").append(x.count(0)).append(" lines ").append(x.count(1)).append(" edges ").append(x.count(2));
    all.append(" filled ").append(x.count(4)).append(" unlike ").append(x.count(5));
    for (int k = 0; k < x.count(0); k++) {
      all.append(" order ").append(x.order(k)).append(" weight ").append(x.weight(1 << k));
    }
    for (int p = 0; p < 10; p++) {
      all.append(" {").append(TestKit.told(x, p)).append('}');
    }
    int[][] ends = {{0, 1}, {1, 2}, {6, 7}};
    for (int[] end : ends) {
      all.append(" ways ").append(x.ways(9, end[0], end[1])).append(' ').append(TestKit.told(x, 9));
    }
  }

  private static void readRows(StringBuilder all, SharedBranch x) {
    all.append(" rows ").append(x.count(6));
    for (int slot = 0; slot < 4; slot++) {
      all.append(' ').append(x.takes(9, slot)).append(" {").append(TestKit.told(x, 9)).append("} ")
          .append(x.judge(slot, 9)).append(" width as 0, 2: ").append(x.paste(slot, 0, 0, 0, 0))
          .append(x.paste(slot, 0, 2, 0, 0));
    }
  }

  private static void readImages(StringBuilder all, SharedBranch x) {
    for (int k = 0; k < 3; k++) {
      all.append(" image ").append(x.back(k));
      readWorld(all, x);
    }
  }

  /** A call on the full object has this answer, and nothing is other by it. */
  static void asks(String label, int want, Call call) {
    SharedBranch x = full();
    TestKit.due(label, call.on(x), want);
    TestKit.due("after " + label + " all", read(x), FULL);
  }

  /** A call on the object without a world has this answer, and nothing is other by it. */
  static void asksBare(String label, int want, Call call) {
    SharedBranch x = bare();
    TestKit.due("no world, " + label, call.on(x), want);
    TestKit.due("no world, after " + label + " all", read(x), BARE);
    TestKit.due("new, " + label, call.on(new SharedBranch()), want);
  }

  /** What a new object answers is another thing than what one with rows does. */
  static void asksBareOnly(String label, int want, Call call) {
    SharedBranch x = bare();
    TestKit.due("no world, " + label, call.on(x), want);
    TestKit.due("no world, after " + label + " all", read(x), BARE);
  }

  /** Calls that are refused by one number, each by itself. */
  static void refuses(int want, Call... calls) {
    for (int i = 0; i < calls.length; i++) {
      asks("call " + i, want, calls[i]);
    }
  }
}
