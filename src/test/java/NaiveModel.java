import java.util.ArrayList;
import java.util.Arrays;
import java.util.HashSet;
import java.util.List;
import java.util.Set;
import java.util.TreeSet;

/**
 * The document once more, as slow and as near to its words as can be: the
 * random tests ask it and the class the same calls.
 */
final class NaiveModel {
  private static final class Fault extends RuntimeException {
    final int kind;
    final int place;

    Fault(int kind, int place) {
      super(null, null, false, false);
      this.kind = kind;
      this.place = place;
    }
  }

  private record Token(char kind, String text, int place) {}

  private static final class State {
    int names = 0;
    int lines = 0;
    List<int[]> edges = new ArrayList<>();
    int[] weights = new int[10];
    List<Integer> order = new ArrayList<>();
    List<TreeSet<Integer>> registers = new ArrayList<>();

    State() {
      Arrays.fill(weights, 1);
      for (int p = 0; p < 10; p++) {
        registers.add(new TreeSet<>());
      }
    }

    State copy() {
      State c = new State();
      c.names = names;
      c.lines = lines;
      c.edges = new ArrayList<>(edges);
      c.weights = weights.clone();
      c.order = new ArrayList<>(order);
      for (int p = 0; p < 10; p++) {
        c.registers.set(p, new TreeSet<>(registers.get(p)));
      }
      return c;
    }
  }

  private State now = new State();
  private final State[] images = new State[3];
  private final List<Integer> tape = new ArrayList<>();
  private final long[][] slots = new long[4][];
  private final int[] widths = new int[4];
  private int faultKind = 0;
  private int faultPlace = -1;

  // ---- the text

  private List<Token> tokens;
  private int at;
  private int signs;

  private List<Token> split() {
    List<Token> made = new ArrayList<>();
    int i = 0;
    while (i < tape.size()) {
      int c = tape.get(i);
      int from = i++;
      if (c == 32 || c == 10) {
        continue;
      }
      StringBuilder text = new StringBuilder().append((char) c);
      char kind = c >= 'a' && c <= 'z' ? 'w' : c >= '0' && c <= '9' ? 'n' : (char) c;
      while (i < tape.size() && (kind == 'w' && tape.get(i) >= 'a' && tape.get(i) <= 'z'
          || kind == 'n' && tape.get(i) >= '0' && tape.get(i) <= '9')) {
        text.append((char) (int) tape.get(i++));
      }
      if (kind != 'w' && kind != 'n' && ";=+-&*/%#(){},".indexOf(kind) < 0) {
        kind = '?';
      }
      made.add(new Token(kind, text.toString(), from));
    }
    made.add(new Token('.', "", tape.size()));
    return made;
  }

  private Token peek() {
    return tokens.get(at);
  }

  private Token need(char kind) {
    Token t = peek();
    if (t.kind != kind) {
      throw new Fault(1, t.place);
    }
    at++;
    return t;
  }

  private int number(int least, int most) {
    Token t = need('n');
    java.math.BigInteger value = new java.math.BigInteger(t.text);
    if (value.compareTo(java.math.BigInteger.valueOf(least)) < 0
        || value.compareTo(java.math.BigInteger.valueOf(most)) > 0) {
      throw new Fault(2, t.place);
    }
    return value.intValue();
  }

  private void begin() {
    tokens = split();
    at = 0;
    signs = 0;
  }

  private void line(State s) {
    Token word = need('w');
    if (word.text.equals("names") != (s.lines == 0)) {
      throw new Fault(1, word.place);
    }
    switch (word.text) {
      case "names" -> {
        s.names = number(1, 10);
        for (int k = 0; k < s.names; k++) {
          s.order.add(k);
        }
      }
      case "weight" -> {
        Token name = need('w');
        if (name.text.length() != 1) {
          throw new Fault(1, name.place);
        }
        if (name.text.charAt(0) - 'a' >= s.names) {
          throw new Fault(2, name.place);
        }
        s.weights[name.text.charAt(0) - 'a'] = number(0, 99);
      }
      case "edge" -> {
        if (s.edges.size() == s.names) {
          throw new Fault(3, word.place);
        }
        int one = number(0, 7);
        int place = peek().place;
        int two = number(0, 7);
        if (one == two) {
          throw new Fault(2, place);
        }
        s.edges.add(new int[] {one, two});
      }
      case "let" -> {
        int p = number(0, 9);
        need('=');
        s.registers.set(p, sum(s, 0));
      }
      default -> throw new Fault(1, word.place);
    }
    need(';');
    s.lines++;
  }

  private void sign() {
    if (++signs == 25) {
      throw new Fault(3, peek().place);
    }
    at++;
  }

  private TreeSet<Integer> sum(State s, int within) {
    TreeSet<Integer> x = term(s, within);
    while (peek().kind == '+' || peek().kind == '-') {
      char c = peek().kind;
      sign();
      x = combine(c == '+' ? 0 : 1, x, term(s, within), s.names);
    }
    return x;
  }

  private TreeSet<Integer> term(State s, int within) {
    TreeSet<Integer> x = part(s, within);
    while ("&*/%#".indexOf(peek().kind) >= 0) {
      int what = 2 + "&*/%#".indexOf(peek().kind);
      sign();
      x = combine(what, x, part(s, within), s.names);
    }
    return x;
  }

  private TreeSet<Integer> part(State s, int within) {
    Token t = peek();
    if (t.kind == 'n') {
      return new TreeSet<>(s.registers.get(number(0, 9)));
    }
    if (t.kind == '{') {
      return family(s);
    }
    if (t.kind == 'w' && t.text.equals("all")) {
      at++;
      return all(s.names);
    }
    int word = t.kind == 'w' ? List.of("min", "max", "hit", "not", "up", "down").indexOf(t.text) : -1;
    if (word < 0 && t.kind != '(') {
      throw new Fault(1, t.place);
    }
    if (within == 6) {
      throw new Fault(3, t.place);
    }
    at++;
    if (word >= 0) {
      return reshape(word, part(s, within + 1), s.names);
    }
    TreeSet<Integer> x = sum(s, within + 1);
    need(')');
    return x;
  }

  private TreeSet<Integer> family(State s) {
    TreeSet<Integer> x = new TreeSet<>();
    need('{');
    if (peek().kind == '}') {
      at++;
      return x;
    }
    while (true) {
      if (peek().kind == 'n') {
        x.add(number(0, 0));
      } else {
        Token t = need('w');
        int set = 0;
        for (char c : t.text.toCharArray()) {
          if (c - 'a' >= s.names || (set & 1 << (c - 'a')) != 0) {
            throw new Fault(2, t.place);
          }
          set |= 1 << (c - 'a');
        }
        x.add(set);
      }
      if (peek().kind == '}') {
        at++;
        return x;
      }
      need(',');
    }
  }

  // ---- families

  private static TreeSet<Integer> all(int names) {
    TreeSet<Integer> x = new TreeSet<>();
    for (int s = 0; s < 1 << names; s++) {
      x.add(s);
    }
    return x;
  }

  private static boolean meetsAll(int s, Set<Integer> y) {
    for (int t : y) {
      if ((s & t) == 0) {
        return false;
      }
    }
    return true;
  }

  private static TreeSet<Integer> combine(int what, TreeSet<Integer> x, TreeSet<Integer> y, int names) {
    TreeSet<Integer> z = new TreeSet<>(x);
    switch (what) {
      case 0 -> z.addAll(y);
      case 1 -> z.removeAll(y);
      case 2 -> z.retainAll(y);
      case 3 -> {
        z.clear();
        for (int s : x) {
          for (int t : y) {
            z.add(s | t);
          }
        }
      }
      case 4 -> {
        z.clear();
        for (int s = 0; s < 1 << names && !y.isEmpty(); s++) {
          boolean fits = true;
          for (int t : y) {
            fits &= (s & t) == 0 && x.contains(s | t);
          }
          if (fits) {
            z.add(s);
          }
        }
      }
      case 5 -> z.removeAll(combine(3, y, combine(4, x, y, names), names));
      default -> z.removeIf(s -> !meetsAll(s, y));
    }
    return z;
  }

  private static TreeSet<Integer> reshape(int what, TreeSet<Integer> x, int names) {
    TreeSet<Integer> z = new TreeSet<>();
    switch (what) {
      case 0 -> {
        z.addAll(x);
        z.removeIf(s -> x.stream().anyMatch(t -> t != (int) s && (t & s) == t));
      }
      case 1 -> {
        z.addAll(x);
        z.removeIf(s -> x.stream().anyMatch(t -> t != (int) s && (t & s) == s));
      }
      case 2 -> {
        TreeSet<Integer> hits = all(names);
        hits.removeIf(s -> !meetsAll(s, x));
        return reshape(0, hits, names);
      }
      case 3 -> {
        z.addAll(all(names));
        z.removeAll(x);
      }
      case 4 -> {
        z.addAll(all(names));
        z.removeIf(s -> x.stream().noneMatch(t -> (t & s) == t));
      }
      case 5 -> {
        z.addAll(all(names));
        z.removeIf(s -> x.stream().noneMatch(t -> (t & s) == s));
      }
      default -> z.addAll(x);
    }
    return z;
  }

  // ---- the face

  int feed(int a, int b, int c, int d, int e) {
    if (tape.size() + 20 > 600) {
      return -1;
    }
    for (int v : new int[] {a, b, c, d, e}) {
      for (int shift = 24; shift >= 0; shift -= 8) {
        tape.add(v >> shift & 255);
      }
    }
    return tape.size();
  }

  int end(int n) {
    if (n < 0 || n > tape.size()) {
      return -1;
    }
    tape.subList(n, tape.size()).clear();
    return n;
  }

  int world() {
    State fresh = new State();
    try {
      begin();
      while (peek().kind != '.') {
        line(fresh);
      }
      now = fresh;
      faultKind = 0;
      faultPlace = -1;
      return fresh.lines;
    } catch (Fault f) {
      faultKind = f.kind;
      faultPlace = f.place;
      return -4;
    } finally {
      tape.clear();
    }
  }

  int put(int p) {
    try {
      if (no(p)) {
        return -2;
      }
      begin();
      TreeSet<Integer> x = sum(now, 0);
      need('.');
      now.registers.set(p, x);
      faultKind = 0;
      faultPlace = -1;
      return x.size();
    } catch (Fault f) {
      faultKind = f.kind;
      faultPlace = f.place;
      return -4;
    } finally {
      tape.clear();
    }
  }

  int fault(int what) {
    return what == 0 ? faultKind : what == 1 ? faultPlace : -1;
  }

  private boolean no(int p) {
    return now.names == 0 || p < 0 || p > 9;
  }

  private boolean noSet(int s) {
    return now.names == 0 || s < 0 || s >= 1 << now.names;
  }

  private boolean noName(int n) {
    return n < 0 || n >= now.names;
  }

  private TreeSet<Integer> reg(int p) {
    return now.registers.get(p);
  }

  private int keepIn(int to, TreeSet<Integer> x) {
    now.registers.set(to, x);
    return x.size();
  }

  int size(int p) {
    return no(p) ? -2 : reg(p).size();
  }

  int has(int p, int set) {
    return no(p) || noSet(set) ? -2 : reg(p).contains(set) ? 1 : 0;
  }

  int makes(int to, int what, int p, int q) {
    return no(to) || no(p) || no(q) || what < 0 || what > 6 ? -2
        : keepIn(to, combine(what, reg(p), reg(q), now.names));
  }

  int turn(int to, int what, int p) {
    return no(to) || no(p) || what < 0 || what > 6 ? -2 : keepIn(to, reshape(what, reg(p), now.names));
  }

  int sets(int p, int set, boolean comes) {
    if (no(p) || noSet(set)) {
      return -2;
    }
    return (comes ? reg(p).add(set) : reg(p).remove((Integer) set)) ? 1 : 0;
  }

  private TreeSet<Integer> changed(TreeSet<Integer> x, int name) {
    TreeSet<Integer> z = new TreeSet<>();
    for (int s : x) {
      z.add(s ^ 1 << name);
    }
    return z;
  }

  int change(int to, int p, int name) {
    return no(to) || no(p) || noName(name) ? -2 : keepIn(to, changed(reg(p), name));
  }

  int half(int to, int p, int name, boolean with) {
    if (no(to) || no(p) || noName(name)) {
      return -2;
    }
    TreeSet<Integer> z = new TreeSet<>();
    for (int s : reg(p)) {
      if ((s >> name & 1) == (with ? 1 : 0)) {
        z.add(s & ~(1 << name));
      }
    }
    return keepIn(to, z);
  }

  int level(int to, int p, int n) {
    if (no(to) || no(p) || n < 0 || n > 10) {
      return -2;
    }
    TreeSet<Integer> z = new TreeSet<>(reg(p));
    z.removeIf(s -> Integer.bitCount(s) != n);
    return keepIn(to, z);
  }

  int nth(int p, int i) {
    if (no(p)) {
      return -2;
    }
    List<Integer> all = new ArrayList<>(reg(p));
    return i < 0 || i >= all.size() ? -1 : all.get(i);
  }

  int rank(int p, int set) {
    return no(p) || noSet(set) ? -2 : reg(p).headSet(set).size();
  }

  private int load(int set) {
    int sum = 0;
    for (int k = 0; k < 10; k++) {
      sum += (set >> k & 1) * now.weights[k];
    }
    return sum;
  }

  int light(int p, int i) {
    if (no(p)) {
      return -2;
    }
    List<Integer> all = new ArrayList<>(reg(p));
    all.sort((s, t) -> load(s) != load(t) ? load(s) - load(t) : s - t);
    return i < 0 || i >= all.size() ? -1 : all.get(i);
  }

  int weight(int set) {
    return noSet(set) ? -2 : load(set);
  }

  int weigh(int name, int n) {
    if (noName(name) || n < 0 || n > 99) {
      return -2;
    }
    int old = now.weights[name];
    now.weights[name] = n;
    return old;
  }

  int weighs(int p, int what) {
    if (no(p) || what < 0 || what > 2) {
      return -2;
    }
    var loads = reg(p).stream().mapToInt(this::load);
    return what == 0 ? loads.min().orElse(-1) : what == 1 ? loads.max().orElse(-1) : loads.sum();
  }

  int each(int p, int name) {
    return no(p) || noName(name) ? -2 : (int) reg(p).stream().filter(s -> (s >> name & 1) == 1).count();
  }

  int names(int p, int what) {
    if (no(p) || what < 0 || what > 2) {
      return -2;
    }
    int bits = 0;
    for (int k = 0; k < now.names; k++) {
      int bit = 1 << k;
      boolean is = what == 0 ? reg(p).stream().allMatch(s -> (s & bit) != 0)
          : what == 1 ? reg(p).stream().anyMatch(s -> (s & bit) != 0)
          : changed(reg(p), k).equals(reg(p));
      bits |= is ? bit : 0;
    }
    return bits;
  }

  int draw(int p, int seed) {
    if (no(p) || seed < 0 || seed > 2_000_000_000) {
      return -2;
    }
    if (reg(p).isEmpty()) {
      return -1;
    }
    long x = java.math.BigInteger.valueOf(1103515245).multiply(java.math.BigInteger.valueOf(seed))
        .add(java.math.BigInteger.valueOf(12345)).mod(java.math.BigInteger.ONE.shiftLeft(31)).longValue();
    return nth(p, (int) ((x >> 16) % reg(p).size()));
  }

  int alike(int p, int q) {
    return no(p) || no(q) ? -2 : reg(p).equals(reg(q)) ? 1 : 0;
  }

  int differ(int p, int q) {
    if (no(p) || no(q)) {
      return -2;
    }
    for (int s = 0; s < 1024; s++) {
      if (reg(p).contains(s) != reg(q).contains(s)) {
        return s;
      }
    }
    return -1;
  }

  int within(int p, int q) {
    return no(p) || no(q) ? -2 : reg(q).containsAll(reg(p)) ? 1 : 0;
  }

  int dual(int p, int q) {
    return no(p) || no(q) ? -2
        : reshape(2, reg(p), now.names).equals(reg(q)) && reshape(2, reg(q), now.names).equals(reg(p)) ? 1 : 0;
  }

  int apart(int p, int q) {
    if (no(p) || no(q)) {
      return -2;
    }
    int pairs = 0;
    for (int s : reg(p)) {
      for (int t : reg(q)) {
        pairs += (s & t) == 0 ? 1 : 0;
      }
    }
    return pairs;
  }

  int packs(int p, int what) {
    if (no(p) || what < 0 || what > 1) {
      return -2;
    }
    List<Integer> all = new ArrayList<>(reg(p));
    if (all.isEmpty() || all.size() > 12) {
      return all.isEmpty() ? -1 : -3;
    }
    int best = what == 0 ? 99 : 0;
    for (int m = 0; m < 1 << all.size(); m++) {
      int union = 0;
      int sum = 0;
      for (int k = 0; k < all.size(); k++) {
        if ((m >> k & 1) == 1) {
          union |= all.get(k);
          sum += Integer.bitCount(all.get(k));
        }
      }
      if (what == 0 && union == names(p, 1)) {
        best = Math.min(best, Integer.bitCount(m));
      }
      if (what == 1 && sum == Integer.bitCount(union)) {
        best = Math.max(best, Integer.bitCount(m));
      }
    }
    return best;
  }

  /** The nodes at a place: parts as the very sets that are in them. */
  private Set<Set<Integer>> nodesAt(TreeSet<Integer> x, List<Integer> order, int place) {
    int ahead = 0;
    for (int k = 0; k < place; k++) {
      ahead |= 1 << order.get(k);
    }
    java.util.Map<Integer, Set<Integer>> parts = new java.util.HashMap<>();
    for (int s : x) {
      parts.computeIfAbsent(s & ahead, k -> new HashSet<>()).add(s & ~ahead);
    }
    Set<Set<Integer>> found = new HashSet<>();
    int bit = 1 << order.get(place);
    for (Set<Integer> part : parts.values()) {
      if (part.stream().anyMatch(s -> (s & bit) != 0)) {
        found.add(part);
      }
    }
    return found;
  }

  private int nodesOf(TreeSet<Integer> x, List<Integer> order) {
    int many = 0;
    for (int place = 0; place < order.size(); place++) {
      many += nodesAt(x, order, place).size();
    }
    return many;
  }

  int nodes(int p) {
    return no(p) ? -2 : nodesOf(reg(p), now.order);
  }

  int net() {
    if (now.names == 0) {
      return -2;
    }
    int many = 0;
    for (int place = 0; place < now.names; place++) {
      Set<Set<Integer>> found = new HashSet<>();
      for (int p = 0; p < 10; p++) {
        found.addAll(nodesAt(reg(p), now.order, place));
      }
      many += found.size();
    }
    return many;
  }

  int wide(int p, int place) {
    return no(p) || noName(place) ? -2 : nodesAt(reg(p), now.order, place).size();
  }

  int order(int place) {
    return noName(place) ? -2 : now.order.get(place);
  }

  int swap(int place) {
    if (noName(place) || noName(place + 1)) {
      return -2;
    }
    java.util.Collections.swap(now.order, place, place + 1);
    return net();
  }

  int move(int name, int place) {
    if (noName(name) || noName(place)) {
      return -2;
    }
    int was = now.order.indexOf(name);
    now.order.remove(was);
    now.order.add(place, name);
    return was;
  }

  private int bestNodes;
  private List<Integer> bestOrder;

  private void tryOrders(TreeSet<Integer> x, List<Integer> head) {
    if (head.size() == now.names) {
      int many = nodesOf(x, head);
      if (many < bestNodes) {
        bestNodes = many;
        bestOrder = new ArrayList<>(head);
      }
      return;
    }
    for (int k = 0; k < now.names; k++) {
      if (!head.contains(k)) {
        head.add(k);
        tryOrders(x, head);
        head.remove(head.size() - 1);
      }
    }
  }

  int best(int p, int what) {
    if (no(p) || what < 0 || what > 10) {
      return -2;
    }
    if (now.names > 6) {
      return -3;
    }
    bestNodes = Integer.MAX_VALUE;
    tryOrders(reg(p), new ArrayList<>());
    return what == 0 ? bestNodes : what > now.names ? -1 : bestOrder.get(what - 1);
  }

  int sift(int p) {
    if (no(p)) {
      return -2;
    }
    for (int name = 0; name < now.names; name++) {
      List<Integer> others = new ArrayList<>(now.order);
      others.remove((Integer) name);
      int fewest = Integer.MAX_VALUE;
      for (int place = 0; place < now.names; place++) {
        List<Integer> tried = new ArrayList<>(others);
        tried.add(place, name);
        int many = nodesOf(reg(p), tried);
        if (many < fewest) {
          fewest = many;
          now.order = tried;
        }
      }
    }
    return nodes(p);
  }

  /** A way's edges: each crossing within has two of them, each end one, and they hang together. */
  private boolean isWay(int s, int from, int till) {
    if (from == till) {
      return s == 0;
    }
    int[] degree = new int[8];
    for (int e = 0; e < now.edges.size(); e++) {
      if ((s >> e & 1) == 1) {
        degree[now.edges.get(e)[0]]++;
        degree[now.edges.get(e)[1]]++;
      }
    }
    int touched = 0;
    for (int c = 0; c < 8; c++) {
      boolean isEnd = c == from || c == till;
      if (isEnd ? degree[c] != 1 : degree[c] != 0 && degree[c] != 2) {
        return false;
      }
      touched |= degree[c] > 0 ? 1 << c : 0;
    }
    return reach(s, from) == touched;
  }

  private int reach(int s, int from) {
    int seen = 1 << from;
    for (int round = 0; round < 10; round++) {
      for (int e = 0; e < now.edges.size(); e++) {
        int both = 1 << now.edges.get(e)[0] | 1 << now.edges.get(e)[1];
        if ((s >> e & 1) == 1 && (seen & both) != 0) {
          seen |= both;
        }
      }
    }
    return seen;
  }

  private int touched(int s) {
    int bits = 0;
    for (int e = 0; e < now.edges.size(); e++) {
      if ((s >> e & 1) == 1) {
        bits |= 1 << now.edges.get(e)[0] | 1 << now.edges.get(e)[1];
      }
    }
    return bits;
  }

  private TreeSet<Integer> allWays(int from, int till) {
    TreeSet<Integer> z = all(now.edges.size());
    z.removeIf(s -> !isWay(s, from, till));
    return z;
  }

  int ways(int to, int from, int till) {
    return no(to) || from < 0 || from > 7 || till < 0 || till > 7 ? -2 : keepIn(to, allWays(from, till));
  }

  int cuts(int to, int from, int till) {
    return no(to) || from < 0 || from > 7 || till < 0 || till > 7 ? -2
        : keepIn(to, reshape(2, allWays(from, till), now.names));
  }

  /** Hangs together, and no longer if any one of its edges goes. */
  private boolean isTree(int s, int every) {
    if (every == 0) {
      return s == 0;
    }
    int root = Integer.numberOfTrailingZeros(every);
    if (reach(s, root) != every) {
      return false;
    }
    for (int e = 0; e < now.edges.size(); e++) {
      if ((s >> e & 1) == 1 && reach(s & ~(1 << e), root) == every) {
        return false;
      }
    }
    return true;
  }

  private boolean isPairs(int s) {
    int used = 0;
    for (int e = 0; e < now.edges.size(); e++) {
      if ((s >> e & 1) == 1) {
        int both = 1 << now.edges.get(e)[0] | 1 << now.edges.get(e)[1];
        if ((used & both) != 0) {
          return false;
        }
        used |= both;
      }
    }
    return true;
  }

  int map(int to, int what) {
    if (no(to) || what < 0 || what > 2) {
      return -2;
    }
    TreeSet<Integer> z = all(now.edges.size());
    int every = touched((1 << now.edges.size()) - 1);
    z.removeIf(s -> !(what == 0 ? isTree(s, every) : what == 1 ? isPairs(s) : touched(s) == every));
    return keepIn(to, z);
  }

  int judge(int slot, int p) {
    if (slot < 0 || slot > 3 || no(p)) {
      return -2;
    }
    if (slots[slot] == null) {
      return -6;
    }
    List<Integer> all = new ArrayList<>(reg(p));
    for (int i = 0; i < slots[slot].length; i++) {
      if (i >= all.size() || all.get(i) != slots[slot][i]) {
        return i;
      }
    }
    return all.size() > slots[slot].length ? -1 : slots[slot].length;
  }

  int takes(int to, int slot) {
    if (slot < 0 || slot > 3 || no(to)) {
      return -2;
    }
    if (slots[slot] == null) {
      return -6;
    }
    TreeSet<Integer> z = new TreeSet<>();
    for (long v : slots[slot]) {
      if (v < 0 || v >= 1 << now.names) {
        return -2;
      }
      z.add((int) v);
    }
    return keepIn(to, z);
  }

  int count(int what) {
    int filled = 0;
    for (int p = 0; p < 10; p++) {
      filled |= reg(p).isEmpty() ? 0 : 1 << p;
    }
    int rows = 0;
    for (long[] slot : slots) {
      rows += slot == null ? 0 : 1;
    }
    return switch (what) {
      case 0 -> now.names;
      case 1 -> now.lines;
      case 2 -> now.edges.size();
      case 3 -> tape.size();
      case 4 -> filled;
      case 5 -> now.names == 0 ? 0 : new HashSet<>(now.registers).size();
      case 6 -> rows;
      default -> -1;
    };
  }

  int keep(int k) {
    if (k < 0 || k > 2) {
      return -2;
    }
    images[k] = now.copy();
    return 0;
  }

  int back(int k) {
    if (k < 0 || k > 2) {
      return -2;
    }
    if (images[k] == null) {
      return -6;
    }
    now = images[k].copy();
    return 0;
  }

  int row(int slot, int width, int n) {
    if (slot < 0 || slot > 3 || width < 0 || width > 3 || n > 60) {
      return -2;
    }
    if (n < 0) {
      return -3;
    }
    slots[slot] = new long[n];
    widths[slot] = width;
    return 0;
  }

  int write(int slot, int i, long v) {
    if (slot < 0 || slot > 3) {
      return -2;
    }
    if (slots[slot] == null) {
      return -6;
    }
    if (i < 0 || i >= slots[slot].length) {
      return -7;
    }
    int drop = 64 - (8 << widths[slot]);
    slots[slot][i] = v << drop >> drop;
    return 0;
  }

  int paste(int slot, int i, int to, int k, int n) {
    if (slot < 0 || slot > 3 || to < 0 || to > 3) {
      return -2;
    }
    if (slots[slot] == null || slots[to] == null) {
      return -6;
    }
    if (widths[slot] != widths[to]) {
      return -8;
    }
    if (i < 0 || k < 0 || n < 0 || (long) i + n > slots[slot].length || (long) k + n > slots[to].length) {
      return -7;
    }
    long[] from = slots[slot].clone();
    for (int j = 0; j < n; j++) {
      slots[to][k + j] = from[i + j];
    }
    return 0;
  }
}
