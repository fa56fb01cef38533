import java.lang.reflect.InvocationTargetException;
import java.lang.reflect.Method;
import java.lang.reflect.Modifier;
import java.util.Random;

/** No call ever throws, whatever its arguments and whatever is on the tape. */
public final class WildTest {
  private static final int[] WILD = {
    0, 1, 2, 3, 4, 5, 6, 7, 8, 9, 10, 11, 12, 20, 59, 60, 61, 63, 64, 100, 511, 512, 599, 600, 601, 1023, 1024,
    65536, 2000000000, 2000000001, -1, -2, -64, -1024, Integer.MAX_VALUE, Integer.MIN_VALUE
  };

  public static void main(String[] args) throws Exception {
    for (int run = 0; run < 300; run++) {
      wildRun(new Random(run));
    }
    for (int run = 0; run < 3000; run++) {
      wildText(new Random(run));
    }
    TestKit.finish("WildTest");
  }

  private static void wildRun(Random random) throws Exception {
    SharedBranch x = new SharedBranch();
    if (random.nextBoolean()) {
      TestKit.world(x, "names " + (1 + random.nextInt(10)) + "; edge 0 1; let 0 = all; let 1 = {a,0}; let 2 = not 1;");
    }
    Method[] methods = SharedBranch.class.getDeclaredMethods();
    for (int i = 0; i < 400; i++) {
      Method m = methods[random.nextInt(methods.length)];
      if (!Modifier.isPublic(m.getModifiers()) || m.getName().equals("world") && random.nextInt(20) != 0) {
        continue;
      }
      Object[] args = new Object[m.getParameterCount()];
      for (int k = 0; k < args.length; k++) {
        int wild = WILD[random.nextInt(random.nextBoolean() ? 8 : WILD.length)];
        Class<?> type = m.getParameterTypes()[k];
        args[k] = type == boolean.class ? (Object) random.nextBoolean()
            : type == long.class ? (Object) (wild * 4294967297L) : (Object) wild;
      }
      try {
        m.invoke(x, args);
      } catch (InvocationTargetException thrown) {
        TestKit.holds(m.getName() + java.util.Arrays.toString(args) + " threw " + thrown.getCause(), false);
      }
    }
    TestKit.holds("a wild run", true);
  }

  private static void wildText(Random random) {
    String[] bits = {
      "names ", "3", ";", "10", "weight ", "a ", "edge ", "0 ", "let ", "=", "{", "}", ",", "(", ")", "min ", "max ",
      "hit ", "not ", "up ", "down ", "all ", "+", "-", "&", "*", "/", "%", "#", " ", "\n", "abc ", "?", "9", "é"
    };
    StringBuilder text = new StringBuilder(random.nextBoolean() ? "names 4;" : "");
    for (int i = random.nextInt(60); i > 0; i--) {
      text.append(bits[random.nextInt(bits.length)]);
    }
    SharedBranch x = TestKit.withWorld("names 3;");
    int answer = TestKit.world(x, text.toString());
    TestKit.holds("world of " + text, answer == -4 ? x.fault(0) > 0 && x.fault(1) >= 0 : x.fault(0) == 0);
    TestKit.holds("the place is on the tape", x.fault(1) <= text.length());
  }
}
