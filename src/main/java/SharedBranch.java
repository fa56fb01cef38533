import java.util.Arrays;

/**
 * Families of sets of up to ten names. The document is ../shared/DOC.md: its
 * promises 2 to 48 are the public methods here, in the same order.
 */
public final class SharedBranch {
  public static final int NONE = -1;

  private static final int NO_SUCH = -2;
  private static final int TOO_MANY = -3;
  private static final int BELOW_ZERO = -3;
  private static final int FAULTY = -4;
  private static final int NOTHING = -6;
  private static final int BEYOND = -7;
  private static final int UNLIKE_WIDTHS = -8;

  private static final int MOST_NAMES = 10;
  private static final int MOST_SETS = 1024;
  private static final int REGISTERS = 10;
  private static final int CROSSINGS = 8;
  private static final int MOST_WEIGHT = 99;
  private static final int MOST_BYTES = 600;
  private static final int FEED_BYTES = 20;
  private static final int IMAGES = 3;
  private static final int SLOTS = 4;
  private static final int WIDTHS = 4;
  private static final int MOST_NUMBERS = 60;
  private static final int MOST_PACKED = 12;
  private static final int MOST_FOR_BEST = 6;
  private static final int MOST_SEED = 2000000000;
  /** Above the nodes of any register, so that the first order tried is fewer. */
  private static final int MORE_THAN_ANY = 1000000;

  private final byte[] tape = new byte[MOST_BYTES];
  private int taped = 0;
  private int faultKind = 0;
  private int faultPlace = NONE;
  private World now = new World();
  private World spare = new World();
  private final World[] images = new World[IMAGES];
  private final boolean[] kept = new boolean[IMAGES];
  private final Slot[] slots = new Slot[SLOTS];
  private final Reader reader = new Reader();
  private final Runner runner = new Runner();
  private final Algebra algebra = new Algebra();
  private final Scales scales = new Scales();
  private final Branches branches = new Branches();
  private final Orders orders = new Orders();
  private final Roads roads = new Roads();
  private final Packer packer = new Packer();
  private final Family scratch = new Family();
  private final Family other = new Family();

  public SharedBranch() {
    for (int k = 0; k < IMAGES; k++) {
      images[k] = new World();
    }
    for (int k = 0; k < SLOTS; k++) {
      slots[k] = new Slot();
    }
  }

  public int feed(int a, int b, int c, int d, int e) {
    if (taped < 0 || taped + FEED_BYTES > MOST_BYTES) {
      return NONE;
    }
    tapeNumber(a, taped);
    tapeNumber(b, taped + 4);
    tapeNumber(c, taped + 8);
    tapeNumber(d, taped + 12);
    tapeNumber(e, taped + 16);
    taped += FEED_BYTES;
    return taped;
  }

  public int end(int n) {
    if (n < 0 || n > taped) {
      return NONE;
    }
    taped = n;
    return n;
  }

  public int world() {
    spare.clear();
    boolean fine = reader.readWorld(tape, taped, spare);
    takeFault();
    if (!fine) {
      return FAULTY;
    }
    runner.run(reader, spare, algebra);
    World old = now;
    now = spare;
    spare = old;
    return now.lines;
  }

  public int put(int p) {
    if (!isRegister(p)) {
      taped = 0;
      return NO_SUCH;
    }
    boolean fine = reader.readSum(tape, taped, now.names, p);
    takeFault();
    if (!fine) {
      return FAULTY;
    }
    runner.run(reader, now, algebra);
    return now.registers[p].tally();
  }

  public int fault(int what) {
    if (what == 0) {
      return faultKind;
    }
    return what == 1 ? faultPlace : NONE;
  }

  public int size(int p) {
    return isRegister(p) ? now.registers[p].tally() : NO_SUCH;
  }

  public int has(int p, int set) {
    if (!isRegister(p) || !isSet(set)) {
      return NO_SUCH;
    }
    return now.registers[p].holds(set) ? 1 : 0;
  }

  public int makes(int to, int what, int p, int q) {
    if (!isRegister(to) || !isRegister(p) || !isRegister(q) || what < 0 || what > Algebra.MEETING) {
      return NO_SUCH;
    }
    scratch.copyFrom(now.registers[p]);
    algebra.combine(what, scratch, now.registers[q], now.names);
    return store(to);
  }

  public int turn(int to, int what, int p) {
    if (!isRegister(to) || !isRegister(p) || what < 0 || what > Algebra.ITSELF) {
      return NO_SUCH;
    }
    scratch.copyFrom(now.registers[p]);
    algebra.reshape(what, scratch, now.names);
    return store(to);
  }

  public int sets(int p, int set, boolean comes) {
    if (!isRegister(p) || !isSet(set)) {
      return NO_SUCH;
    }
    Family family = now.registers[p];
    if (family.holds(set) == comes) {
      return 0;
    }
    if (comes) {
      family.include(set);
    } else {
      family.exclude(set);
    }
    return 1;
  }

  public int change(int to, int p, int name) {
    if (!isRegister(to) || !isRegister(p) || !isName(name)) {
      return NO_SUCH;
    }
    scratch.copyFrom(now.registers[p]);
    scratch.flip(name);
    return store(to);
  }

  public int half(int to, int p, int name, boolean with) {
    if (!isRegister(to) || !isRegister(p) || !isName(name)) {
      return NO_SUCH;
    }
    scratch.copyFrom(now.registers[p]);
    if (with) {
      scratch.flip(name);
    }
    scratch.keepWithout(name);
    return store(to);
  }

  public int level(int to, int p, int n) {
    if (!isRegister(to) || !isRegister(p) || n < 0 || n > MOST_NAMES) {
      return NO_SUCH;
    }
    Family family = now.registers[p];
    scratch.clear();
    for (int s = 0; s < 1 << now.names; s++) {
      if (Integer.bitCount(s) == n && family.holds(s)) {
        scratch.include(s);
      }
    }
    return store(to);
  }

  public int nth(int p, int i) {
    return isRegister(p) ? now.registers[p].pick(i) : NO_SUCH;
  }

  public int rank(int p, int set) {
    if (!isRegister(p) || !isSet(set)) {
      return NO_SUCH;
    }
    return now.registers[p].tallyBelow(set);
  }

  public int light(int p, int i) {
    return isRegister(p) ? scales.pick(now, now.registers[p], i) : NO_SUCH;
  }

  public int weight(int set) {
    return isSet(set) ? now.load(set) : NO_SUCH;
  }

  public int weigh(int name, int n) {
    if (!isName(name) || n < 0 || n > MOST_WEIGHT) {
      return NO_SUCH;
    }
    int old = now.weights[name];
    now.weights[name] = n;
    return old;
  }

  public int weighs(int p, int what) {
    if (!isRegister(p) || what < 0 || what > Scales.TOGETHER) {
      return NO_SUCH;
    }
    return scales.sum(now, now.registers[p], what);
  }

  public int each(int p, int name) {
    if (!isRegister(p) || !isName(name)) {
      return NO_SUCH;
    }
    scratch.copyFrom(now.registers[p]);
    scratch.keepWithout(name);
    return now.registers[p].tally() - scratch.tally();
  }

  public int names(int p, int what) {
    if (!isRegister(p) || what < 0 || what > 2) {
      return NO_SUCH;
    }
    Family family = now.registers[p];
    int found = 0;
    for (int name = 0; name < now.names; name++) {
      if (isFoundName(family, name, what)) {
        found |= 1 << name;
      }
    }
    return found;
  }

  public int draw(int p, int seed) {
    if (!isRegister(p) || seed < 0 || seed > MOST_SEED) {
      return NO_SUCH;
    }
    int many = now.registers[p].tally();
    if (many <= 0) {
      return NONE;
    }
    long x = (1103515245L * seed + 12345L) % 2147483648L;
    return now.registers[p].pick((int) (x / 65536L % many));
  }

  public int alike(int p, int q) {
    if (!isRegister(p) || !isRegister(q)) {
      return NO_SUCH;
    }
    return now.registers[p].sameAs(now.registers[q]) ? 1 : 0;
  }

  public int differ(int p, int q) {
    if (!isRegister(p) || !isRegister(q)) {
      return NO_SUCH;
    }
    scratch.copyFrom(now.registers[p]);
    scratch.takeAway(now.registers[q]);
    other.copyFrom(now.registers[q]);
    other.takeAway(now.registers[p]);
    scratch.join(other);
    return scratch.pick(0);
  }

  public int within(int p, int q) {
    if (!isRegister(p) || !isRegister(q)) {
      return NO_SUCH;
    }
    scratch.copyFrom(now.registers[p]);
    scratch.takeAway(now.registers[q]);
    return scratch.isEmpty() ? 1 : 0;
  }

  public int dual(int p, int q) {
    if (!isRegister(p) || !isRegister(q)) {
      return NO_SUCH;
    }
    scratch.copyFrom(now.registers[q]);
    algebra.reshape(Algebra.HIT, scratch, now.names);
    other.copyFrom(now.registers[p]);
    algebra.reshape(Algebra.HIT, other, now.names);
    return scratch.sameAs(now.registers[p]) && other.sameAs(now.registers[q]) ? 1 : 0;
  }

  public int apart(int p, int q) {
    if (!isRegister(p) || !isRegister(q)) {
      return NO_SUCH;
    }
    return algebra.disjointPairs(now.registers[p], now.registers[q], now.names);
  }

  public int packs(int p, int what) {
    if (!isRegister(p) || what < 0 || what > 1) {
      return NO_SUCH;
    }
    Family family = now.registers[p];
    int many = family.tally();
    if (many == 0) {
      return NONE;
    }
    if (many > MOST_PACKED) {
      return TOO_MANY;
    }
    packer.load(family);
    return what == 0 ? packer.fewestForAll() : packer.mostDisjoint();
  }

  public int nodes(int p) {
    return isRegister(p) ? branches.tallyOf(now, now.registers[p]) : NO_SUCH;
  }

  public int net() {
    return isWorld() ? branches.tallyOfAll(now) : NO_SUCH;
  }

  public int wide(int p, int place) {
    if (!isRegister(p) || !isName(place)) {
      return NO_SUCH;
    }
    branches.tallyOf(now, now.registers[p]);
    return branches.tallyAt(place);
  }

  public int order(int place) {
    return isName(place) ? now.order[place] : NO_SUCH;
  }

  public int swap(int place) {
    if (!isName(place) || place >= now.names - 1) {
      return NO_SUCH;
    }
    now.moveName(now.order[place], place + 1);
    return branches.tallyOfAll(now);
  }

  public int move(int name, int place) {
    if (!isName(name) || !isName(place)) {
      return NO_SUCH;
    }
    return now.moveName(name, place);
  }

  public int best(int p, int what) {
    if (!isRegister(p) || what < 0 || what > MOST_NAMES) {
      return NO_SUCH;
    }
    if (now.names > MOST_FOR_BEST) {
      return TOO_MANY;
    }
    if (what > now.names) {
      return NONE;
    }
    orders.weighAll(now.registers[p], now.names);
    return what == 0 ? orders.fewest() : orders.nameAt(what - 1);
  }

  public int sift(int p) {
    if (!isRegister(p)) {
      return NO_SUCH;
    }
    return orders.siftAll(now, now.registers[p], branches);
  }

  public int ways(int to, int from, int till) {
    if (!isRegister(to) || !isCrossing(from) || !isCrossing(till)) {
      return NO_SUCH;
    }
    roads.findWays(now, from, till, scratch);
    return store(to);
  }

  public int map(int to, int what) {
    if (!isRegister(to) || what < 0 || what > Roads.COVERS) {
      return NO_SUCH;
    }
    roads.findSets(now, what, scratch);
    return store(to);
  }

  public int cuts(int to, int from, int till) {
    if (!isRegister(to) || !isCrossing(from) || !isCrossing(till)) {
      return NO_SUCH;
    }
    roads.findWays(now, from, till, scratch);
    algebra.reshape(Algebra.HIT, scratch, now.names);
    return store(to);
  }

  public int judge(int slot, int p) {
    if (!isSlot(slot) || !isRegister(p)) {
      return NO_SUCH;
    }
    Slot judged = slots[slot];
    if (judged.isBare()) {
      return NOTHING;
    }
    Family family = now.registers[p];
    int from = 0;
    for (int i = 0; i < judged.length; i++) {
      int due = family.firstFrom(from);
      if (due < 0 || judged.numbers[i] != due) {
        return i;
      }
      from = due + 1;
    }
    return family.firstFrom(from) >= 0 ? NONE : judged.length;
  }

  public int takes(int to, int slot) {
    if (!isRegister(to) || !isSlot(slot)) {
      return NO_SUCH;
    }
    Slot taken = slots[slot];
    if (taken.isBare()) {
      return NOTHING;
    }
    scratch.clear();
    for (int i = 0; i < taken.length; i++) {
      long number = taken.numbers[i];
      if (number < 0 || number >= 1L << now.names) {
        return NO_SUCH;
      }
      scratch.include((int) number);
    }
    return store(to);
  }

  public int count(int what) {
    switch (what) {
      case 0: return now.names;
      case 1: return now.lines;
      case 2: return now.edges;
      case 3: return taped;
      case 4: return now.filledRegisters();
      case 5: return isWorld() ? now.unlikeFamilies() : 0;
      case 6: return rowsInSlots();
      default: return NONE;
    }
  }

  public int keep(int k) {
    if (k < 0 || k >= IMAGES) {
      return NO_SUCH;
    }
    images[k].copyFrom(now);
    kept[k] = true;
    return 0;
  }

  public int back(int k) {
    if (k < 0 || k >= IMAGES) {
      return NO_SUCH;
    }
    if (!kept[k]) {
      return NOTHING;
    }
    now.copyFrom(images[k]);
    return 0;
  }

  public int row(int slot, int width, int n) {
    if (!isSlot(slot) || width < 0 || width >= WIDTHS || n > MOST_NUMBERS) {
      return NO_SUCH;
    }
    if (n < 0) {
      return BELOW_ZERO;
    }
    slots[slot].start(width, n);
    return 0;
  }

  public int write(int slot, int i, long v) {
    if (!isSlot(slot)) {
      return NO_SUCH;
    }
    Slot written = slots[slot];
    if (written.isBare()) {
      return NOTHING;
    }
    if (i < 0 || i >= written.length) {
      return BEYOND;
    }
    written.numbers[i] = written.cut(v);
    return 0;
  }

  public int paste(int slot, int i, int to, int k, int n) {
    if (!isSlot(slot) || !isSlot(to)) {
      return NO_SUCH;
    }
    Slot source = slots[slot];
    Slot target = slots[to];
    if (source.isBare() || target.isBare()) {
      return NOTHING;
    }
    if (source.width != target.width) {
      return UNLIKE_WIDTHS;
    }
    if (!source.spans(i, n) || !target.spans(k, n)) {
      return BEYOND;
    }
    System.arraycopy(source.numbers, i, target.numbers, k, n);
    return 0;
  }

  private void tapeNumber(int number, int at) {
    for (int i = 0; i < 4; i++) {
      if (at >= 0 && at + i < MOST_BYTES) {
        tape[at + i] = (byte) (number >>> (24 - 8 * i));
      }
    }
  }

  /** The tape is used up by a reading, whether it was faulty or not. */
  private void takeFault() {
    taped = 0;
    faultKind = reader.faultKind;
    faultPlace = reader.faultPlace;
  }

  private boolean isWorld() {
    return now.names > 0;
  }

  private boolean isRegister(int p) {
    return isWorld() && p >= 0 && p < REGISTERS;
  }

  private boolean isSet(int set) {
    return isWorld() && set >= 0 && set < 1 << now.names;
  }

  /** Places are as many as names, so this is asked of both. */
  private boolean isName(int name) {
    return name >= 0 && name < now.names;
  }

  private boolean isCrossing(int crossing) {
    return crossing >= 0 && crossing < CROSSINGS;
  }

  private boolean isSlot(int slot) {
    return slot >= 0 && slot < SLOTS;
  }

  /** Results are made in scratch, since a register may be its own source. */
  private int store(int to) {
    if (!isRegister(to)) {
      return NO_SUCH;
    }
    now.registers[to].copyFrom(scratch);
    return scratch.tally();
  }

  private boolean isFoundName(Family family, int name, int what) {
    scratch.copyFrom(family);
    if (what == 2) {
      scratch.flip(name);
      return scratch.sameAs(family);
    }
    scratch.keepWithout(name);
    return what == 0 ? scratch.isEmpty() : !scratch.sameAs(family);
  }

  private int rowsInSlots() {
    int rows = 0;
    for (int k = 0; k < SLOTS; k++) {
      if (!slots[k].isBare()) {
        rows++;
      }
    }
    return rows;
  }

  /** A family: one bit for each set, at the set's number. */
  private static final class Family {
    static final int WORDS = MOST_SETS / 64;
    /** Of each of the first six names: the bits of the numbers that have it not. */
    static final long[] WITHOUT = {
      0x5555555555555555L, 0x3333333333333333L, 0x0f0f0f0f0f0f0f0fL,
      0x00ff00ff00ff00ffL, 0x0000ffff0000ffffL, 0x00000000ffffffffL
    };
    static final int IN_WORD = 6;

    final long[] words = new long[WORDS];

    boolean holds(int set) {
      return set >= 0 && set < MOST_SETS && (words[set >> 6] >>> (set & 63) & 1L) != 0L;
    }

    void include(int set) {
      if (set >= 0 && set < MOST_SETS) {
        words[set >> 6] |= 1L << (set & 63);
      }
    }

    void exclude(int set) {
      if (set >= 0 && set < MOST_SETS) {
        words[set >> 6] &= ~(1L << (set & 63));
      }
    }

    void clear() {
      Arrays.fill(words, 0L);
    }

    void copyFrom(Family from) {
      System.arraycopy(from.words, 0, words, 0, WORDS);
    }

    void becomeAll(int names) {
      clear();
      if (names < IN_WORD) {
        words[0] = (1L << (1 << names)) - 1L;
        return;
      }
      for (int w = 0; w < WORDS && w < 1 << (names - IN_WORD); w++) {
        words[w] = -1L;
      }
    }

    void join(Family with) {
      for (int w = 0; w < WORDS; w++) {
        words[w] |= with.words[w];
      }
    }

    void cutBy(Family with) {
      for (int w = 0; w < WORDS; w++) {
        words[w] &= with.words[w];
      }
    }

    void takeAway(Family less) {
      for (int w = 0; w < WORDS; w++) {
        words[w] &= ~less.words[w];
      }
    }

    boolean isEmpty() {
      for (int w = 0; w < WORDS; w++) {
        if (words[w] != 0L) {
          return false;
        }
      }
      return true;
    }

    boolean sameAs(Family with) {
      for (int w = 0; w < WORDS; w++) {
        if (words[w] != with.words[w]) {
          return false;
        }
      }
      return true;
    }

    int tally() {
      int many = 0;
      for (int w = 0; w < WORDS; w++) {
        many += Long.bitCount(words[w]);
      }
      return many;
    }

    int tallyBelow(int set) {
      int many = 0;
      for (int w = 0; w < WORDS && w < set >> 6; w++) {
        many += Long.bitCount(words[w]);
      }
      if (set >= 0 && set < MOST_SETS) {
        many += Long.bitCount(words[set >> 6] & ((1L << (set & 63)) - 1L));
      }
      return many;
    }

    /** The least member that is not below a number; NONE if there is none. */
    int firstFrom(int set) {
      if (set < 0 || set >= MOST_SETS) {
        return NONE;
      }
      long word = words[set >> 6] & (-1L << (set & 63));
      for (int w = set >> 6; w < WORDS; w++) {
        if (w > set >> 6) {
          word = words[w];
        }
        if (word != 0L) {
          return w * 64 + Long.numberOfTrailingZeros(word);
        }
      }
      return NONE;
    }

    /** The i-th member by number, from 0 on; NONE if there are not so many. */
    int pick(int i) {
      if (i < 0) {
        return NONE;
      }
      int left = i;
      for (int w = 0; w < WORDS; w++) {
        int many = Long.bitCount(words[w]);
        if (left < many) {
          return w * 64 + pickInWord(words[w], left);
        }
        left -= many;
      }
      return NONE;
    }

    private int pickInWord(long word, int i) {
      long left = word;
      for (int k = 0; k < i && k < 64; k++) {
        left &= left - 1L;
      }
      return Long.numberOfTrailingZeros(left);
    }

    /** Each set that has not the name comes with it, too. */
    void raise(int name) {
      if (name < 0 || name >= MOST_NAMES) {
        return;
      }
      if (name < IN_WORD) {
        for (int w = 0; w < WORDS; w++) {
          words[w] |= (words[w] & WITHOUT[name]) << (1 << name);
        }
        return;
      }
      int stride = 1 << (name - IN_WORD);
      for (int w = 0; w + stride < WORDS; w++) {
        if ((w & stride) == 0) {
          words[w + stride] |= words[w];
        }
      }
    }

    /** Each set that has the name comes without it, too. */
    void lower(int name) {
      if (name < 0 || name >= MOST_NAMES) {
        return;
      }
      if (name < IN_WORD) {
        for (int w = 0; w < WORDS; w++) {
          words[w] |= words[w] >>> (1 << name) & WITHOUT[name];
        }
        return;
      }
      int stride = 1 << (name - IN_WORD);
      for (int w = 0; w + stride < WORDS; w++) {
        if ((w & stride) == 0) {
          words[w] |= words[w + stride];
        }
      }
    }

    /** The name goes out of each set that has it, and into each that has not. */
    void flip(int name) {
      if (name < 0 || name >= MOST_NAMES) {
        return;
      }
      if (name < IN_WORD) {
        int shift = 1 << name;
        for (int w = 0; w < WORDS; w++) {
          words[w] = (words[w] & WITHOUT[name]) << shift | words[w] >>> shift & WITHOUT[name];
        }
        return;
      }
      int stride = 1 << (name - IN_WORD);
      for (int w = 0; w + stride < WORDS; w++) {
        if ((w & stride) == 0) {
          long word = words[w];
          words[w] = words[w + stride];
          words[w + stride] = word;
        }
      }
    }

    void keepWithout(int name) {
      if (name < 0 || name >= MOST_NAMES) {
        return;
      }
      for (int w = 0; w < WORDS; w++) {
        if (name < IN_WORD) {
          words[w] &= WITHOUT[name];
        } else if ((w >> (name - IN_WORD) & 1) != 0) {
          words[w] = 0L;
        }
      }
    }
  }

  /** All that an image keeps: the world's text as read, registers, weights, order. */
  private static final class World {
    /** 0 as long as there is no world. */
    int names = 0;
    int lines = 0;
    int edges = 0;
    final int[] from = new int[MOST_NAMES];
    final int[] till = new int[MOST_NAMES];
    final int[] weights = new int[MOST_NAMES];
    final int[] order = new int[MOST_NAMES];
    final Family[] registers = new Family[REGISTERS];

    World() {
      for (int p = 0; p < REGISTERS; p++) {
        registers[p] = new Family();
      }
    }

    void clear() {
      names = 0;
      lines = 0;
      edges = 0;
      for (int k = 0; k < MOST_NAMES; k++) {
        weights[k] = 1;
        order[k] = k;
      }
      for (int p = 0; p < REGISTERS; p++) {
        registers[p].clear();
      }
    }

    void copyFrom(World w) {
      names = w.names;
      lines = w.lines;
      edges = w.edges;
      System.arraycopy(w.from, 0, from, 0, MOST_NAMES);
      System.arraycopy(w.till, 0, till, 0, MOST_NAMES);
      System.arraycopy(w.weights, 0, weights, 0, MOST_NAMES);
      System.arraycopy(w.order, 0, order, 0, MOST_NAMES);
      for (int p = 0; p < REGISTERS; p++) {
        registers[p].copyFrom(w.registers[p]);
      }
    }

    void addEdge(int one, int two) {
      if (edges >= 0 && edges < MOST_NAMES) {
        from[edges] = one;
        till[edges] = two;
        edges++;
      }
    }

    int load(int set) {
      int sum = 0;
      for (int name = 0; name < names && name < MOST_NAMES; name++) {
        if ((set >> name & 1) != 0) {
          sum += weights[name];
        }
      }
      return sum;
    }

    /** Moves a name to a place, the others as they stand; answers where it was. */
    int moveName(int name, int place) {
      int at = placeOf(name);
      if (at < 0 || place < 0 || place >= MOST_NAMES) {
        return NONE;
      }
      int step = at < place ? 1 : -1;
      for (int k = at; k != place && k >= 0 && k < MOST_NAMES; k += step) {
        order[k] = order[k + step];
      }
      order[place] = name;
      return at;
    }

    private int placeOf(int name) {
      for (int k = 0; k < names && k < MOST_NAMES; k++) {
        if (order[k] == name) {
          return k;
        }
      }
      return NONE;
    }

    int filledRegisters() {
      int bits = 0;
      for (int p = 0; p < REGISTERS; p++) {
        if (!registers[p].isEmpty()) {
          bits |= 1 << p;
        }
      }
      return bits;
    }

    int unlikeFamilies() {
      int many = 0;
      for (int p = 0; p < REGISTERS; p++) {
        if (firstLike(p) == p) {
          many++;
        }
      }
      return many;
    }

    /** The first register that is as this one. */
    int firstLike(int p) {
      for (int q = 0; q < p && q < REGISTERS; q++) {
        if (p < REGISTERS && registers[q].sameAs(registers[p])) {
          return q;
        }
      }
      return p;
    }
  }

  /**
   * Reads a text: splits it in tokens, looks for the first fault, and writes
   * the sums down as steps that the runner does once the whole text is known
   * to be faultless.
   */
  private static final class Reader {
    static final int PUSH_REGISTER = 0;
    static final int PUSH_EMPTY = 1;
    static final int PUSH_ALL = 2;
    static final int ADD_SET = 3;
    static final int COMBINE = 4;
    static final int RESHAPE = 5;
    static final int STORE = 6;

    private static final int CANT_STAND = 1;
    private static final int OUT_OF_BOUNDS = 2;
    private static final int TOO_MUCH = 3;

    /** Kinds of tokens beside the signs, whose kind is their own byte. */
    private static final int AT_END = 0;
    private static final int BAD = 1;
    private static final int WORD = 2;
    private static final int NUMBER = 3;

    /** Values of words; those of reshaping are RESHAPES and their number. */
    private static final int NAMES_WORD = 1;
    private static final int WEIGHT_WORD = 2;
    private static final int EDGE_WORD = 3;
    private static final int LET_WORD = 4;
    private static final int ALL_WORD = 5;
    private static final int RESHAPES = 10;

    private static final int MOST_SIGNS = 24;
    private static final int MOST_WITHIN = 6;
    /** Above all bounds, so that long rows of digits stay out of them. */
    private static final int HUGE = 1000000;
    private static final int MOST_TOKENS = MOST_BYTES + 1;

    int faultKind = 0;
    int faultPlace = NONE;
    int steps = 0;
    final int[] step = new int[MOST_TOKENS];
    final int[] operand = new int[MOST_TOKENS];

    private byte[] text = new byte[0];
    private int length = 0;
    private int names = 0;
    private int signs = 0;
    private int at = 0;
    private final int[] kinds = new int[MOST_TOKENS];
    private final int[] values = new int[MOST_TOKENS];
    private final int[] starts = new int[MOST_TOKENS];
    private final int[] ends = new int[MOST_TOKENS];

    boolean readWorld(byte[] bytes, int many, World to) {
      open(bytes, many);
      for (int i = 0; i < MOST_TOKENS && kinds[at] != AT_END; i++) {
        if (!readLine(to)) {
          return false;
        }
        to.lines++;
      }
      return true;
    }

    boolean readSum(byte[] bytes, int many, int namesThere, int register) {
      open(bytes, many);
      names = namesThere;
      return sum(0) && pass(AT_END) && emit(STORE, register);
    }

    private void open(byte[] bytes, int many) {
      text = bytes;
      length = Math.max(0, Math.min(many, Math.min(bytes.length, MOST_BYTES)));
      faultKind = 0;
      faultPlace = NONE;
      steps = 0;
      names = 0;
      signs = 0;
      at = 0;
      split();
    }

    private void split() {
      int made = 0;
      int i = 0;
      while (i < length && made < MOST_TOKENS - 1) {
        if (text[i] == ' ' || text[i] == '\n') {
          i++;
          continue;
        }
        starts[made] = i;
        if (isLetter(text[i])) {
          i = splitWord(made, i);
        } else if (isDigit(text[i])) {
          i = splitNumber(made, i);
        } else {
          kinds[made] = isSign(text[i]) ? text[i] : BAD;
          i++;
        }
        ends[made] = i;
        made++;
      }
      kinds[made] = AT_END;
      starts[made] = length;
      ends[made] = length;
    }

    private int splitWord(int token, int from) {
      int i = from;
      while (i < length && isLetter(text[i])) {
        i++;
      }
      kinds[token] = WORD;
      values[token] = wordValue(from, i);
      return i;
    }

    private int splitNumber(int token, int from) {
      int i = from;
      int number = 0;
      while (i < length && isDigit(text[i])) {
        number = Math.min(HUGE, number * 10 + text[i] - '0');
        i++;
      }
      kinds[token] = NUMBER;
      values[token] = number;
      return i;
    }

    private static boolean isLetter(int c) {
      return c >= 'a' && c <= 'z';
    }

    private static boolean isDigit(int c) {
      return c >= '0' && c <= '9';
    }

    private static boolean isSign(int c) {
      return c == ';' || c == '=' || c == '(' || c == ')' || c == '{' || c == '}' || c == ','
          || combination(c) >= 0;
    }

    /** Which combination a sign stands for; NONE for others. */
    private static int combination(int c) {
      switch (c) {
        case '+': return Algebra.JOIN;
        case '-': return Algebra.LESS;
        case '&': return Algebra.CUT;
        case '*': return Algebra.PRODUCT;
        case '/': return Algebra.QUOTIENT;
        case '%': return Algebra.REST;
        case '#': return Algebra.MEETING;
        default: return NONE;
      }
    }

    private int wordValue(int from, int till) {
      if (spells("names", from, till)) return NAMES_WORD;
      if (spells("weight", from, till)) return WEIGHT_WORD;
      if (spells("edge", from, till)) return EDGE_WORD;
      if (spells("let", from, till)) return LET_WORD;
      if (spells("all", from, till)) return ALL_WORD;
      if (spells("min", from, till)) return RESHAPES + Algebra.MIN;
      if (spells("max", from, till)) return RESHAPES + Algebra.MAX;
      if (spells("hit", from, till)) return RESHAPES + Algebra.HIT;
      if (spells("not", from, till)) return RESHAPES + Algebra.NOT;
      if (spells("up", from, till)) return RESHAPES + Algebra.UP;
      if (spells("down", from, till)) return RESHAPES + Algebra.DOWN;
      return NONE;
    }

    private boolean spells(String word, int from, int till) {
      if (till - from != word.length() || from < 0 || till > length) {
        return false;
      }
      for (int i = 0; i < word.length(); i++) {
        if (text[from + i] != word.charAt(i)) {
          return false;
        }
      }
      return true;
    }

    /** Goes on behind a token that fits; tells the fault at one that does not. */
    private boolean advance(boolean fits, int fault) {
      if (!fits) {
        faultKind = fault;
        faultPlace = starts[at];
      } else if (kinds[at] != AT_END && at < MOST_TOKENS - 1) {
        at++;
      }
      return fits;
    }

    private boolean fail(int fault) {
      return advance(false, fault);
    }

    private boolean pass(int kind) {
      return advance(kinds[at] == kind, CANT_STAND);
    }

    private boolean passNumber(int least, int most) {
      if (kinds[at] != NUMBER) {
        return fail(CANT_STAND);
      }
      return advance(values[at] >= least && values[at] <= most, OUT_OF_BOUNDS);
    }

    /** The value of the token that was passed last. */
    private int passed() {
      return at > 0 ? values[at - 1] : 0;
    }

    private boolean emit(int what, int with) {
      if (steps >= 0 && steps < MOST_TOKENS) {
        step[steps] = what;
        operand[steps] = with;
        steps++;
      }
      return true;
    }

    private boolean readLine(World to) {
      int word = kinds[at] == WORD ? values[at] : NONE;
      boolean first = to.lines == 0;
      if (first != (word == NAMES_WORD) || word < NAMES_WORD || word > LET_WORD) {
        return fail(CANT_STAND);
      }
      if (word == EDGE_WORD && to.edges >= names) {
        return fail(TOO_MUCH);
      }
      pass(WORD);
      int register = values[at];
      boolean fine;
      switch (word) {
        case NAMES_WORD:
          fine = readNames(to);
          break;
        case WEIGHT_WORD:
          fine = readWeight(to);
          break;
        case EDGE_WORD:
          fine = readEdge(to);
          break;
        default:
          fine = passNumber(0, REGISTERS - 1) && pass('=') && sum(0) && emit(STORE, register);
      }
      return fine && pass(';');
    }

    private boolean readNames(World to) {
      if (!passNumber(1, MOST_NAMES)) {
        return false;
      }
      names = passed();
      to.names = names;
      return true;
    }

    private boolean readWeight(World to) {
      if (kinds[at] != WORD || ends[at] - starts[at] != 1) {
        return fail(CANT_STAND);
      }
      int name = text[starts[at]] - 'a';
      boolean isName = name >= 0 && name < names && name < MOST_NAMES;
      if (!advance(isName, OUT_OF_BOUNDS) || !passNumber(0, MOST_WEIGHT)) {
        return false;
      }
      to.weights[name] = passed();
      return true;
    }

    private boolean readEdge(World to) {
      if (!passNumber(0, CROSSINGS - 1)) {
        return false;
      }
      int one = passed();
      if (kinds[at] == NUMBER && values[at] == one) {
        return fail(OUT_OF_BOUNDS);
      }
      if (!passNumber(0, CROSSINGS - 1)) {
        return false;
      }
      to.addEdge(one, passed());
      return true;
    }

    /**
     * Depth: how many words and brackets this stands within. A + or - waits
     * until the term behind it is whole; the other signs wait for a part alone.
     */
    private boolean sum(int depth) {
      int waiting = NONE;
      if (!part(depth)) {
        return false;
      }
      for (int i = 0; i < MOST_TOKENS && combination(kinds[at]) >= 0; i++) {
        int what = combination(kinds[at]);
        boolean ofSum = what == Algebra.JOIN || what == Algebra.LESS;
        if (ofSum && waiting >= 0) {
          emit(COMBINE, waiting);
        }
        signs++;
        if (!advance(signs <= MOST_SIGNS, TOO_MUCH) || !part(depth)) {
          return false;
        }
        if (ofSum) {
          waiting = what;
        } else {
          emit(COMBINE, what);
        }
      }
      return waiting < 0 || emit(COMBINE, waiting);
    }

    private boolean part(int depth) {
      switch (kinds[at]) {
        case NUMBER:
          return passNumber(0, REGISTERS - 1) && emit(PUSH_REGISTER, passed());
        case '{':
          return family();
        case '(':
          return advance(depth < MOST_WITHIN, TOO_MUCH) && sum(depth + 1) && pass(')');
        case WORD:
          return wordPart(values[at], depth);
        default:
          return fail(CANT_STAND);
      }
    }

    private boolean wordPart(int word, int depth) {
      if (word == ALL_WORD) {
        return pass(WORD) && emit(PUSH_ALL, 0);
      }
      if (word < RESHAPES) {
        return fail(CANT_STAND);
      }
      return advance(depth < MOST_WITHIN, TOO_MUCH) && part(depth + 1) && emit(RESHAPE, word - RESHAPES);
    }

    private boolean family() {
      pass('{');
      emit(PUSH_EMPTY, 0);
      if (kinds[at] == '}') {
        return pass('}');
      }
      for (int i = 0; i < MOST_TOKENS; i++) {
        if (!member()) {
          return false;
        }
        if (kinds[at] != ',') {
          return pass('}');
        }
        pass(',');
      }
      return fail(CANT_STAND);
    }

    private boolean member() {
      if (kinds[at] == NUMBER) {
        return advance(values[at] == 0, OUT_OF_BOUNDS) && emit(ADD_SET, 0);
      }
      if (kinds[at] != WORD) {
        return advance(false, CANT_STAND);
      }
      int set = 0;
      boolean fits = true;
      for (int i = starts[at]; i < ends[at] && i < length; i++) {
        int name = text[i] - 'a';
        fits = fits && name >= 0 && name < names && (set >> name & 1) == 0;
        set |= fits ? 1 << name : 0;
      }
      return advance(fits, OUT_OF_BOUNDS) && emit(ADD_SET, set);
    }
  }

  /** Does the steps that a reader wrote down, on a pile of families. */
  private static final class Runner {
    /** Two wait at each of six brackets, and three stand within the last. */
    private static final int MOST_PILED = 16;

    private final Family[] pile = new Family[MOST_PILED];
    private int piled = 0;

    Runner() {
      for (int i = 0; i < MOST_PILED; i++) {
        pile[i] = new Family();
      }
    }

    void run(Reader text, World on, Algebra algebra) {
      piled = 0;
      for (int i = 0; i < text.steps && i < text.step.length; i++) {
        doStep(text.step[i], text.operand[i], on, algebra);
      }
    }

    private void doStep(int step, int operand, World on, Algebra algebra) {
      switch (step) {
        case Reader.PUSH_REGISTER:
          if (isRegisterNumber(operand)) {
            pushed().copyFrom(on.registers[operand]);
          }
          break;
        case Reader.PUSH_EMPTY:
          pushed().clear();
          break;
        case Reader.PUSH_ALL:
          pushed().becomeAll(on.names);
          break;
        case Reader.ADD_SET:
          top(0).include(operand);
          break;
        case Reader.COMBINE:
          algebra.combine(operand, top(1), top(0), on.names);
          piled = Math.max(0, piled - 1);
          break;
        case Reader.RESHAPE:
          algebra.reshape(operand, top(0), on.names);
          break;
        default:
          if (isRegisterNumber(operand)) {
            on.registers[operand].copyFrom(top(0));
          }
          piled = 0;
      }
    }

    private static boolean isRegisterNumber(int p) {
      return p >= 0 && p < REGISTERS;
    }

    private Family pushed() {
      piled = Math.min(MOST_PILED, piled + 1);
      return top(0);
    }

    private Family top(int below) {
      int at = Math.max(0, Math.min(MOST_PILED - 1, piled - 1 - below));
      return pile[at];
    }
  }

  /** What families give together and alone; the first one is the one that is changed. */
  private static final class Algebra {
    static final int JOIN = 0;
    static final int LESS = 1;
    static final int CUT = 2;
    static final int PRODUCT = 3;
    static final int QUOTIENT = 4;
    static final int REST = 5;
    static final int MEETING = 6;

    static final int MIN = 0;
    static final int MAX = 1;
    static final int HIT = 2;
    static final int NOT = 3;
    static final int UP = 4;
    static final int DOWN = 5;
    static final int ITSELF = 6;

    private final Family work = new Family();
    private final Family step = new Family();
    private final Family saved = new Family();
    private final int[] one = new int[MOST_SETS];
    private final int[] two = new int[MOST_SETS];

    void combine(int what, Family x, Family y, int names) {
      switch (what) {
        case JOIN:
          x.join(y);
          break;
        case LESS:
          x.takeAway(y);
          break;
        case CUT:
          x.cutBy(y);
          break;
        case PRODUCT:
          multiply(x, y, names);
          break;
        case QUOTIENT:
          divide(x, y, names);
          break;
        case REST:
          saved.copyFrom(x);
          divide(x, y, names);
          multiply(x, y, names);
          saved.takeAway(x);
          x.copyFrom(saved);
          break;
        default:
          work.copyFrom(y);
          becomeMissing(work, names);
          x.takeAway(work);
      }
    }

    void reshape(int what, Family x, int names) {
      switch (what) {
        case MIN:
          keepLeast(x, names);
          break;
        case MAX:
          keepGreatest(x, names);
          break;
        case HIT:
          becomeMissing(x, names);
          complement(x, names);
          keepLeast(x, names);
          break;
        case NOT:
          complement(x, names);
          break;
        case UP:
          raiseAll(x, names);
          break;
        case DOWN:
          lowerAll(x, names);
          break;
        default:
      }
    }

    private void complement(Family x, int names) {
      work.becomeAll(names);
      work.takeAway(x);
      x.copyFrom(work);
    }

    private void raiseAll(Family x, int names) {
      for (int name = 0; name < names; name++) {
        x.raise(name);
      }
    }

    private void lowerAll(Family x, int names) {
      for (int name = 0; name < names; name++) {
        x.lower(name);
      }
    }

    /** A set misses one of x if all it has not is above that one. */
    private void becomeMissing(Family x, int names) {
      raiseAll(x, names);
      for (int name = 0; name < names; name++) {
        x.flip(name);
      }
    }

    /** What lies above a member and one name more is not least. */
    private void keepLeast(Family x, int names) {
      work.clear();
      for (int name = 0; name < names; name++) {
        step.copyFrom(x);
        step.keepWithout(name);
        step.flip(name);
        work.join(step);
      }
      raiseAll(work, names);
      x.takeAway(work);
    }

    private void keepGreatest(Family x, int names) {
      work.clear();
      for (int name = 0; name < names; name++) {
        step.copyFrom(x);
        step.flip(name);
        step.keepWithout(name);
        work.join(step);
      }
      lowerAll(work, names);
      x.takeAway(work);
    }

    /**
     * Pairs whose join lies in a set are the members of x in it times those of
     * y in it; what is left after taking off the pairs of smaller sets are the
     * pairs whose join is the set.
     */
    private void multiply(Family x, Family y, int names) {
      countBelow(x, one, names);
      countBelow(y, two, names);
      int sets = setsOf(names);
      for (int s = 0; s < sets; s++) {
        one[s] *= two[s];
      }
      for (int bit = 1; bit < sets; bit <<= 1) {
        for (int s = bit; s < sets; s++) {
          if ((s & bit) != 0) {
            one[s] -= one[s - bit];
          }
        }
      }
      x.clear();
      for (int s = 0; s < sets; s++) {
        if (one[s] != 0) {
          x.include(s);
        }
      }
    }

    private void countBelow(Family x, int[] counts, int names) {
      int sets = setsOf(names);
      for (int s = 0; s < sets; s++) {
        counts[s] = x.holds(s) ? 1 : 0;
      }
      for (int bit = 1; bit < sets; bit <<= 1) {
        for (int s = bit; s < sets; s++) {
          if ((s & bit) != 0) {
            counts[s] += counts[s - bit];
          }
        }
      }
    }

    private static int setsOf(int names) {
      return 1 << Math.max(0, Math.min(MOST_NAMES, names));
    }

    private void divide(Family x, Family y, int names) {
      work.clear();
      if (!y.isEmpty()) {
        int used = namesUsed(y, names);
        int sets = setsOf(names);
        for (int s = 0; s < sets; s++) {
          if ((s & used) == 0 && allJoined(x, y, s)) {
            work.include(s);
          }
        }
      }
      x.copyFrom(work);
    }

    private boolean allJoined(Family x, Family y, int s) {
      int t = y.firstFrom(0);
      for (int i = 0; i < MOST_SETS && t >= 0; i++) {
        if (!x.holds(s | t)) {
          return false;
        }
        t = y.firstFrom(t + 1);
      }
      return true;
    }

    private int namesUsed(Family x, int names) {
      int used = 0;
      for (int name = 0; name < names; name++) {
        step.copyFrom(x);
        step.keepWithout(name);
        if (!step.sameAs(x)) {
          used |= 1 << name;
        }
      }
      return used;
    }

    int disjointPairs(Family x, Family y, int names) {
      countBelow(y, two, names);
      int sets = setsOf(names);
      int pairs = 0;
      for (int s = 0; s < sets; s++) {
        if (x.holds(s)) {
          pairs += two[sets - 1 - s];
        }
      }
      return pairs;
    }
  }

  /** Families by weight. */
  private static final class Scales {
    static final int LEAST = 0;
    static final int GREATEST = 1;
    static final int TOGETHER = 2;

    private final int[] loads = new int[MOST_SETS];
    private final int[] many = new int[MOST_NAMES * MOST_WEIGHT + 1];

    private void weighSets(World w) {
      loads[0] = 0;
      for (int name = 0; name < w.names && name < MOST_NAMES; name++) {
        int bit = 1 << name;
        for (int s = 0; s < bit; s++) {
          loads[bit + s] = loads[s] + w.weights[name];
        }
      }
    }

    int sum(World w, Family x, int what) {
      if (x.isEmpty()) {
        return what == TOGETHER ? 0 : NONE;
      }
      weighSets(w);
      int least = MOST_NAMES * MOST_WEIGHT;
      int greatest = 0;
      int all = 0;
      int s = x.firstFrom(0);
      for (int i = 0; i < MOST_SETS && s >= 0; i++) {
        least = Math.min(least, loads[s]);
        greatest = Math.max(greatest, loads[s]);
        all += loads[s];
        s = x.firstFrom(s + 1);
      }
      if (what == LEAST) {
        return least;
      }
      return what == GREATEST ? greatest : all;
    }

    /** The i-th member by weight, and by number among those of like weight. */
    int pick(World w, Family x, int i) {
      if (i < 0 || i >= x.tally()) {
        return NONE;
      }
      weighSets(w);
      Arrays.fill(many, 0);
      int s = x.firstFrom(0);
      for (int k = 0; k < MOST_SETS && s >= 0; k++) {
        if (loads[s] >= 0 && loads[s] < many.length) {
          many[loads[s]]++;
        }
        s = x.firstFrom(s + 1);
      }
      int left = i;
      for (int load = 0; load < many.length; load++) {
        if (left < many[load]) {
          return pickOfLoad(x, load, left);
        }
        left -= many[load];
      }
      return NONE;
    }

    private int pickOfLoad(Family x, int load, int i) {
      int left = i;
      int s = x.firstFrom(0);
      for (int k = 0; k < MOST_SETS && s >= 0; k++) {
        if (loads[s] == load) {
          if (left == 0) {
            return s;
          }
          left--;
        }
        s = x.firstFrom(s + 1);
      }
      return NONE;
    }
  }

  /** The nodes of families by an order: like parts are one node. */
  private static final class Branches {
    /** At most 1,524 of ten families of ten names; the first two are no nodes. */
    private static final int MOST_NODES = 1600;
    private static final int HEADS = 2048;
    /** The part that has no set, and the one that has the empty set alone. */
    private static final int EMPTY = 0;
    private static final int FIRST_NODE = 2;

    private final int[] heads = new int[HEADS];
    private final int[] nexts = new int[MOST_NODES];
    private final int[] places = new int[MOST_NODES];
    private final int[] lows = new int[MOST_NODES];
    private final int[] highs = new int[MOST_NODES];
    private final int[] setAt = new int[MOST_SETS];
    private final int[] parts = new int[MOST_SETS];
    private final int[] atPlace = new int[MOST_NAMES];
    private int used = FIRST_NODE;

    int tallyOf(World w, Family x) {
      reset();
      spread(w);
      grow(x, w.names);
      return used - FIRST_NODE;
    }

    int tallyOfAll(World w) {
      reset();
      spread(w);
      for (int p = 0; p < REGISTERS; p++) {
        if (w.firstLike(p) == p) {
          grow(w.registers[p], w.names);
        }
      }
      return used - FIRST_NODE;
    }

    /** How many nodes are at a place, of what was tallied last. */
    int tallyAt(int place) {
      return place >= 0 && place < MOST_NAMES ? atPlace[place] : 0;
    }

    private void reset() {
      for (int n = FIRST_NODE; n < used; n++) {
        heads[headOf(places[n], lows[n], highs[n])] = 0;
      }
      Arrays.fill(atPlace, 0);
      used = FIRST_NODE;
    }

    private static int headOf(int place, int low, int high) {
      return (high * 613 + low * 37 + place) & (HEADS - 1);
    }

    /** Which set each row of choices is, the choice at place 0 being the highest bit. */
    private void spread(World w) {
      setAt[0] = 0;
      for (int k = 0; k < w.names && k < MOST_NAMES; k++) {
        int bit = 1 << k;
        int name = 1 << w.order[w.names - 1 - k];
        for (int j = 0; j < bit; j++) {
          setAt[bit + j] = setAt[j] | name;
        }
      }
    }

    /** From the last place to the first, two parts are put together to one. */
    private void grow(Family x, int names) {
      int rows = 1 << Math.max(0, Math.min(MOST_NAMES, names));
      for (int j = 0; j < rows; j++) {
        parts[j] = x.holds(setAt[j]) ? 1 : EMPTY;
      }
      for (int place = Math.min(MOST_NAMES, names) - 1; place >= 0; place--) {
        for (int j = 0; j < 1 << place; j++) {
          int high = parts[2 * j + 1];
          parts[j] = high == EMPTY ? parts[2 * j] : node(place, parts[2 * j], high);
        }
      }
    }

    private int node(int place, int low, int high) {
      int head = headOf(place, low, high);
      int n = heads[head];
      for (int i = 0; i < MOST_NODES && n >= FIRST_NODE && n < MOST_NODES; i++) {
        if (places[n] == place && lows[n] == low && highs[n] == high) {
          return n;
        }
        n = nexts[n];
      }
      if (used >= MOST_NODES || place < 0 || place >= MOST_NAMES) {
        return EMPTY;
      }
      n = used++;
      places[n] = place;
      lows[n] = low;
      highs[n] = high;
      nexts[n] = heads[head];
      heads[head] = n;
      atPlace[place]++;
      return n;
    }
  }

  /** The best order of few names, and the one that sifting finds. */
  private static final class Orders {
    private static final int MOST_AHEAD = 1 << MOST_FOR_BEST;

    private final long[] parts = new long[MOST_AHEAD];
    private final int[] fewestBehind = new int[MOST_AHEAD];
    private final int[] firstName = new int[MOST_AHEAD];

    /**
     * What is at a place depends on which names are ahead, not on their order:
     * so for each set of names ahead, the fewest nodes behind are found once.
     */
    void weighAll(Family x, int names) {
      int all = (1 << Math.max(0, Math.min(MOST_FOR_BEST, names))) - 1;
      fewestBehind[all] = 0;
      for (int ahead = all - 1; ahead >= 0; ahead--) {
        int many = gatherParts(x.words[0], ahead, all);
        fewestBehind[ahead] = MORE_THAN_ANY;
        for (int name = 0; name < names && name < MOST_FOR_BEST; name++) {
          if ((ahead >> name & 1) == 0) {
            int nodes = partsWith(name, many) + fewestBehind[ahead | 1 << name];
            if (nodes < fewestBehind[ahead]) {
              fewestBehind[ahead] = nodes;
              firstName[ahead] = name;
            }
          }
        }
      }
    }

    int fewest() {
      return fewestBehind[0];
    }

    int nameAt(int place) {
      int ahead = 0;
      for (int k = 0; k < place && k < MOST_FOR_BEST; k++) {
        ahead |= 1 << firstName[ahead & (MOST_AHEAD - 1)];
      }
      return firstName[ahead & (MOST_AHEAD - 1)];
    }

    /** The unlike parts by the sets of names ahead, as bits of a word. */
    private int gatherParts(long family, int ahead, int all) {
      long behind = 1L;
      for (int name = 0; name < MOST_FOR_BEST; name++) {
        if (((all & ~ahead) >> name & 1) != 0) {
          behind |= behind << (1 << name);
        }
      }
      int many = 0;
      int set = 0;
      for (int i = 0; i < MOST_AHEAD; i++) {
        long part = family >>> set & behind;
        if (many < MOST_AHEAD && !isGathered(part, many)) {
          parts[many] = part;
          many++;
        }
        set = (set - ahead) & ahead;
        if (set == 0) {
          break;
        }
      }
      return many;
    }

    private boolean isGathered(long part, int many) {
      for (int i = 0; i < many && i < MOST_AHEAD; i++) {
        if (parts[i] == part) {
          return true;
        }
      }
      return false;
    }

    private int partsWith(int name, int many) {
      long with = name >= 0 && name < Family.IN_WORD ? ~Family.WITHOUT[name] : 0L;
      int found = 0;
      for (int i = 0; i < many && i < MOST_AHEAD; i++) {
        if ((parts[i] & with) != 0L) {
          found++;
        }
      }
      return found;
    }

    int siftAll(World w, Family x, Branches branches) {
      int fewest = 0;
      for (int name = 0; name < w.names && name < MOST_NAMES; name++) {
        fewest = MORE_THAN_ANY;
        int goal = 0;
        for (int place = 0; place < w.names && place < MOST_NAMES; place++) {
          w.moveName(name, place);
          int nodes = branches.tallyOf(w, x);
          if (nodes < fewest) {
            fewest = nodes;
            goal = place;
          }
        }
        w.moveName(name, goal);
      }
      return fewest;
    }
  }

  /** Ways, trees, pairs and covers of the map. */
  private static final class Roads {
    static final int TREES = 0;
    static final int PAIRS = 1;
    static final int COVERS = 2;

    private final int[] clumps = new int[CROSSINGS];

    void findWays(World w, int from, int till, Family to) {
      to.clear();
      if (from == till) {
        to.include(0);
        return;
      }
      walk(w, from, till, 1 << from, 0, to);
    }

    /** Each step sees a crossing more, so it goes no deeper than they are. */
    private static void walk(World w, int here, int till, int seen, int taken, Family to) {
      for (int e = 0; e < w.edges && e < MOST_NAMES; e++) {
        int next = acrossFrom(w, e, here);
        if (next < 0 || (seen >> next & 1) != 0) {
          continue;
        }
        if (next == till) {
          to.include(taken | 1 << e);
        } else if (Integer.bitCount(seen) < CROSSINGS) {
          walk(w, next, till, seen | 1 << next, taken | 1 << e, to);
        }
      }
    }

    private static int acrossFrom(World w, int e, int here) {
      if (e < 0 || e >= MOST_NAMES) {
        return NONE;
      }
      if (w.from[e] == here) {
        return w.till[e];
      }
      return w.till[e] == here ? w.from[e] : NONE;
    }

    void findSets(World w, int what, Family to) {
      to.clear();
      int touched = touchedBy(w, (1 << w.edges) - 1);
      for (int s = 0; s < 1 << w.edges && s < MOST_SETS; s++) {
        if (isOneOf(w, what, s, touched)) {
          to.include(s);
        }
      }
    }

    private boolean isOneOf(World w, int what, int s, int touched) {
      int crossings = Integer.bitCount(touched);
      int edges = Integer.bitCount(s);
      switch (what) {
        case TREES:
          return edges == Math.max(0, crossings - 1) && isWithoutRing(w, s);
        case PAIRS:
          return Integer.bitCount(touchedBy(w, s)) == 2 * edges;
        default:
          return touchedBy(w, s) == touched;
      }
    }

    private static int touchedBy(World w, int s) {
      int touched = 0;
      for (int e = 0; e < w.edges && e < MOST_NAMES; e++) {
        if ((s >> e & 1) != 0) {
          touched |= 1 << w.from[e] | 1 << w.till[e];
        }
      }
      return touched;
    }

    private boolean isWithoutRing(World w, int s) {
      for (int c = 0; c < CROSSINGS; c++) {
        clumps[c] = c;
      }
      for (int e = 0; e < w.edges && e < MOST_NAMES; e++) {
        if ((s >> e & 1) != 0 && !joinClumps(w.from[e], w.till[e])) {
          return false;
        }
      }
      return true;
    }

    private boolean joinClumps(int one, int two) {
      if (one < 0 || one >= CROSSINGS || two < 0 || two >= CROSSINGS || clumps[one] == clumps[two]) {
        return false;
      }
      int old = clumps[two];
      for (int c = 0; c < CROSSINGS; c++) {
        if (clumps[c] == old) {
          clumps[c] = clumps[one];
        }
      }
      return true;
    }
  }

  /** The fewest members that have all names, and the most that share none. */
  private static final class Packer {
    private final int[] members = new int[MOST_PACKED];
    private int many = 0;
    private int goal = 0;

    void load(Family x) {
      many = 0;
      goal = 0;
      int s = x.firstFrom(0);
      for (int i = 0; i < MOST_PACKED && s >= 0; i++) {
        members[i] = s;
        many++;
        goal |= s;
        s = x.firstFrom(s + 1);
      }
    }

    int fewestForAll() {
      return fewestFrom(members, many, goal, 0, 0);
    }

    int mostDisjoint() {
      return mostFrom(members, many, 0, 0);
    }

    private static int fewestFrom(int[] members, int many, int goal, int at, int have) {
      if (have == goal) {
        return 0;
      }
      if (at < 0 || at >= many || at >= members.length) {
        return MOST_PACKED + 1;
      }
      int without = fewestFrom(members, many, goal, at + 1, have);
      return Math.min(without, 1 + fewestFrom(members, many, goal, at + 1, have | members[at]));
    }

    private static int mostFrom(int[] members, int many, int at, int have) {
      if (at < 0 || at >= many || at >= members.length) {
        return 0;
      }
      int without = mostFrom(members, many, at + 1, have);
      if ((members[at] & have) != 0) {
        return without;
      }
      return Math.max(without, 1 + mostFrom(members, many, at + 1, have | members[at]));
    }
  }

  /** A row of numbers of one width, or nothing. */
  private static final class Slot {
    final long[] numbers = new long[MOST_NUMBERS];
    int width = 0;
    int length = NONE;

    boolean isBare() {
      return length < 0;
    }

    void start(int newWidth, int newLength) {
      Arrays.fill(numbers, 0L);
      width = newWidth;
      length = Math.min(MOST_NUMBERS, newLength);
    }

    long cut(long v) {
      switch (width) {
        case 0: return (byte) v;
        case 1: return (short) v;
        case 2: return (int) v;
        default: return v;
      }
    }

    boolean spans(int from, int n) {
      return from >= 0 && n >= 0 && (long) from + n <= length;
    }
  }
}
