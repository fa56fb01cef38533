import java.lang.reflect.Method;
import java.lang.reflect.Modifier;
import java.util.ArrayList;
import java.util.Comparator;
import java.util.List;
import java.util.Random;

/** Random runs of calls, asked of the class and of the naive model. */
public final class RandomTest {
  private static final int RUNS = 400;
  private static final List<Method> CALLS = new ArrayList<>();
  private static final List<Method> MODEL_CALLS = new ArrayList<>();

  private final Random random;
  private final SharedBranch x = new SharedBranch();
  private final NaiveModel model = new NaiveModel();
  private final List<String> told = new ArrayList<>();
  private int names = 0;
  private int calls = 0;

  private RandomTest(long seed) {
    random = new Random(seed);
  }

  public static void main(String[] args) throws Exception {
    for (Method m : SharedBranch.class.getDeclaredMethods()) {
      if (Modifier.isPublic(m.getModifiers())) {
        CALLS.add(m);
      }
    }
    CALLS.sort(Comparator.comparing(Method::getName));
    for (Method m : CALLS) {
      MODEL_CALLS.add(NaiveModel.class.getDeclaredMethod(m.getName(), m.getParameterTypes()));
    }
    TestKit.due("methods of the face", CALLS.size(), 47);
    for (int run = 0; run < RUNS; run++) {
      new RandomTest(run).run(run);
    }
    TestKit.finish("RandomTest");
  }

  private void run(int run) throws Exception {
    int most = run % 4 == 0 ? 10 : run % 4 == 1 ? 6 : run % 4 == 2 ? 4 : 8;
    if (random.nextInt(8) != 0) {
      text(worldText(most), "world", 0);
    }
    while (calls < 470) {
      int kind = random.nextInt(100);
      if (kind < 2) {
        text(worldText(most), "world", 0);
      } else if (kind < 9) {
        text(maybeSpoilt(sum(0)), "put", number(0, 9));
      } else {
        ask(random.nextInt(CALLS.size()));
      }
    }
  }

  private void text(String text, String call, int p) throws Exception {
    byte[] bytes = TestKit.bytesOf(text.length() > 600 ? text.substring(0, 600) : text);
    one("end", 0);
    for (int from = 0; from < bytes.length; from += 20) {
      int[] five = TestKit.fiveNumbers(bytes, from);
      one("feed", five[0], five[1], five[2], five[3], five[4]);
    }
    one("end", bytes.length);
    told.add("\"" + text + "\"");
    int got = call.equals("world") ? one("world") : one("put", p);
    one("fault", 0);
    one("fault", 1);
    if (call.equals("world") && got >= 0) {
      names = model.count(0);
    }
  }

  private int one(String name, Object... args) throws Exception {
    for (int i = 0; i < CALLS.size(); i++) {
      if (CALLS.get(i).getName().equals(name)) {
        return same(i, args);
      }
    }
    throw new IllegalStateException(name);
  }

  private int same(int i, Object[] args) throws Exception {
    String call = CALLS.get(i).getName() + java.util.Arrays.toString(args);
    calls++;
    int got = (Integer) CALLS.get(i).invoke(x, args);
    int want = (Integer) MODEL_CALLS.get(i).invoke(model, args);
    told.add(call + " " + want);
    TestKit.due(call, got, want);
    if (got != want && told.size() < 4000) {
      System.out.println("  run: " + told);
      told.clear();
    }
    return got;
  }

  private void ask(int i) throws Exception {
    Method m = CALLS.get(i);
    if (m.getName().equals("world") || m.getName().equals("put") || m.getName().equals("feed")) {
      if (random.nextInt(20) != 0) {
        return;
      }
    }
    if (m.getName().equals("back") && random.nextInt(3) != 0) {
      return;
    }
    Object[] args = new Object[m.getParameterCount()];
    for (int k = 0; k < args.length; k++) {
      Class<?> type = m.getParameterTypes()[k];
      if (type == boolean.class) {
        args[k] = random.nextBoolean();
      } else if (type == long.class) {
        args[k] = longNumber();
      } else {
        args[k] = argument(m.getName(), k);
      }
    }
    same(i, args);
    names = model.count(0);
  }

  private int argument(String call, int k) {
    if (random.nextInt(40) == 0) {
      int[] wild = {-1, 10, 11, 1024, Integer.MAX_VALUE, Integer.MIN_VALUE, -2, 61, 2000000001, 64};
      return wild[random.nextInt(wild.length)];
    }
    String spec = call + k;
    switch (spec) {
      case "has1": case "sets1": case "rank1": case "weight0":
        return number(0, Math.max(1, 1 << names) - 1);
      case "makes1": case "turn1":
        return number(0, 6);
      case "change2": case "half2": case "each1": case "wide1": case "order0": case "move0": case "move1":
      case "weigh0": case "swap0":
        return number(0, Math.max(1, names) - 1);
      case "level2": case "best1":
        return number(0, 10);
      case "nth1": case "light1":
        return number(0, random.nextBoolean() ? 6 : 1 << names);
      case "weigh1":
        return number(0, 99);
      case "weighs1": case "names1": case "map1": case "keep0": case "back0":
        return number(0, 2);
      case "packs1": case "fault0":
        return number(0, 1);
      case "draw1":
        return random.nextInt(2000000001);
      case "ways1": case "ways2": case "cuts1": case "cuts2":
        return number(0, random.nextBoolean() ? 3 : 7);
      case "count0":
        return number(0, 7);
      case "judge0": case "takes1": case "row0": case "write0": case "paste0": case "paste2":
        return number(0, 3);
      case "row1":
        return random.nextInt(2) * random.nextInt(4);
      case "row2":
        return random.nextInt(6) == 0 ? number(-1, 62) : number(0, 6);
      case "write1": case "paste1": case "paste3": case "paste4":
        return number(0, 4);
      case "end0":
        return number(0, 40);
      default:
        return number(0, 9);
    }
  }

  private long longNumber() {
    switch (random.nextInt(4)) {
      case 0: return random.nextLong();
      case 1: return random.nextInt(300);
      default: return random.nextInt(Math.max(1, 1 << names));
    }
  }

  private int number(int least, int most) {
    return least + random.nextInt(Math.max(1, most - least + 1));
  }

  private String worldText(int most) {
    int was = names;
    names = number(Math.max(1, most - 2), most);
    StringBuilder text = new StringBuilder("names ").append(names).append(';');
    int edges = number(0, names);
    int crossings = number(2, 8);
    for (int e = 0; e < edges; e++) {
      int one = random.nextInt(crossings);
      int two = (one + 1 + random.nextInt(crossings - 1)) % crossings;
      text.append("edge ").append(one).append(' ').append(two).append(random.nextBoolean() ? ";" : " ;\n");
    }
    for (int w = 0; w < names; w++) {
      if (random.nextInt(3) == 0) {
        text.append("weight ").append((char) ('a' + random.nextInt(names))).append(' ')
            .append(random.nextInt(100)).append(';');
      }
    }
    for (int l = 0; l < 6 && text.length() < 450; l++) {
      text.append("let ").append(random.nextInt(10)).append(" = ").append(sum(1)).append(';');
    }
    String made = maybeSpoilt(text.toString());
    names = was;
    if (random.nextInt(40) == 0) {
      return "";
    }
    return made;
  }

  private String maybeSpoilt(String text) {
    if (random.nextInt(3) != 0 || text.isEmpty()) {
      return text;
    }
    StringBuilder spoilt = new StringBuilder(text);
    int at = random.nextInt(spoilt.length());
    String bytes = "abjklz0189;=+-&*/%#(){},? \n\t" + (char) 200 + (char) 0;
    char c = bytes.charAt(random.nextInt(bytes.length()));
    switch (random.nextInt(5)) {
      case 0: spoilt.deleteCharAt(at); break;
      case 1: spoilt.setCharAt(at, c); break;
      case 2: spoilt.insert(at, c); break;
      case 3: spoilt.setLength(at); break;
      default: spoilt.insert(at, new String[] {" min ", "((((((", " names 3;", " all ", "edge 1 2;", " {a} ", "+0-0+0"}[random.nextInt(7)]);
    }
    return spoilt.toString();
  }

  private String sum(int depth) {
    StringBuilder text = new StringBuilder(term(depth));
    while (random.nextInt(3) == 0) {
      text.append(random.nextBoolean() ? "+" : " - ").append(term(depth));
    }
    return text.toString();
  }

  private String term(int depth) {
    StringBuilder text = new StringBuilder(part(depth));
    while (random.nextInt(3) == 0) {
      text.append("&*/%#".charAt(random.nextInt(5))).append(part(depth));
    }
    return text.toString();
  }

  private String part(int depth) {
    int kind = random.nextInt(10);
    if (depth < 7 && kind < 2) {
      return "(" + sum(depth + 1) + ")";
    }
    if (depth < 7 && kind < 5) {
      String[] words = {"min ", "max ", "hit ", "not ", "up ", "down "};
      return words[random.nextInt(6)] + part(depth + 1);
    }
    if (kind < 7) {
      return kind == 5 && random.nextInt(3) == 0 ? "all" : " " + random.nextInt(10);
    }
    StringBuilder text = new StringBuilder("{");
    int many = random.nextInt(5);
    for (int i = 0; i < many; i++) {
      text.append(i > 0 ? "," : "").append(TestKit.word(random.nextInt(Math.max(1, 1 << names))));
    }
    return text.append("}").toString();
  }
}
