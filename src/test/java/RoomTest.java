import com.sun.management.ThreadMXBean;
import java.lang.management.ManagementFactory;

/** Calls make nothing: all room is taken when an object is made, and it is little. */
public final class RoomTest {
  private static final ThreadMXBean BEAN = (ThreadMXBean) ManagementFactory.getThreadMXBean();
  private static long sum = 0;

  public static void main(String[] args) {
    warmUp();
    long before = used();
    SharedBranch x = new SharedBranch();
    long object = used() - before;
    TestKit.holds("an object takes " + object + " bytes", object < 250000);
    feed(x, "names 10;edge 0 1;edge 1 2;edge 2 0;let 0=all;let 1={a,bc,0};let 2=0*1/1%1#1;");
    before = used();
    sum += x.world();
    calls(x);
    long calls = used() - before;
    TestKit.holds("the calls take " + calls + " bytes", calls < 2000);
    lastCalls();
    TestKit.finish("RoomTest");
  }

  /** An object is used for 512 calls: as many dear ones make nothing, and the 512th is answered as the first. */
  private static void lastCalls() {
    SharedBranch x = new SharedBranch();
    feed(x, "names 10;let 0={ab,cde,fg,hij,a,j}*{0,ac,bdf,egi,hj};");
    sum += x.world();
    int first = x.sift(0);
    int made = 3 + 1 + 1 + 1;
    long before = used();
    for (int call = made + 1; call < 512; call++) {
      sum += call % 8 == 0 ? x.sift(0) : call % 2 == 0 ? x.makes(1, 5, 0, 0) : x.net();
    }
    int nodes = x.nodes(0);
    long calls = used() - before;
    TestKit.holds("506 dear calls take " + calls + " bytes", calls < 2000);
    TestKit.holds("the 512th call: " + nodes + " nodes, not more than " + first, nodes > 0 && nodes <= first);
  }

  private static long used() {
    return BEAN.getThreadAllocatedBytes(Thread.currentThread().getId());
  }

  private static void warmUp() {
    SharedBranch x = new SharedBranch();
    feed(x, "names 6;edge 0 1;let 0=all;let 1={a};let 2=min max hit not up down 0*1;");
    sum += x.world();
    calls(x);
    sum += used();
  }

  private static void feed(SharedBranch x, String text) {
    TestKit.feed(x, TestKit.bytesOf(text));
  }

  private static void calls(SharedBranch x) {
    for (int what = 0; what < 7; what++) {
      sum += x.makes(3, what, 0, 1) + x.turn(4, what, 1) + x.count(what);
    }
    for (int what = 0; what < 3; what++) {
      sum += x.map(5, what) + x.weighs(0, what) + x.names(1, what);
    }
    sum += x.size(0) + x.has(0, 3) + x.sets(1, 3, true) + x.change(6, 1, 2) + x.half(6, 1, 0, true);
    sum += x.level(7, 0, 3) + x.nth(0, 5) + x.rank(0, 5) + x.light(0, 5) + x.weight(5) + x.weigh(0, 5);
    sum += x.each(0, 1) + x.draw(0, 9) + x.alike(0, 1) + x.differ(0, 1) + x.within(0, 1) + x.dual(0, 1);
    sum += x.apart(0, 1) + x.packs(1, 0) + x.packs(1, 1) + x.nodes(0) + x.net() + x.wide(0, 1) + x.order(0);
    sum += x.swap(0) + x.move(0, 2) + x.best(1, 0) + x.sift(1) + x.ways(8, 0, 1) + x.cuts(8, 0, 1);
    sum += x.row(0, 0, 5) + x.write(0, 1, 3) + x.paste(0, 0, 0, 1, 2) + x.judge(0, 1) + x.takes(9, 0);
    sum += x.keep(0) + x.back(0) + x.fault(0) + x.feed(1, 2, 3, 4, 5) + x.put(0);
  }
}
