import java.lang.reflect.Method;
import java.nio.file.Files;
import java.nio.file.Path;
import java.util.regex.Matcher;
import java.util.regex.Pattern;

/** The examples of README.md answer what they say behind "//". */
public final class ReadmeTest {
  private static final Pattern BLOCK = Pattern.compile("(?s)```java\\n(.*?)```");
  private static final Pattern FEED = Pattern.compile("^feed\\(x, \"(.*)\"\\);$");
  private static final Pattern CALL = Pattern.compile("^x\\.(\\w+)\\((.*)\\);\\s*// (-?\\d+).*$");

  public static void main(String[] args) throws Exception {
    Matcher block = BLOCK.matcher(Files.readString(Path.of("README.md")));
    int examples = 0;
    while (block.find()) {
      // the helper's block makes no object
      if (block.group(1).startsWith("SharedBranch x = new SharedBranch();")) {
        example(block.group(1));
        examples++;
      }
    }
    TestKit.due("examples", examples, 2);
    TestKit.finish("ReadmeTest");
  }

  private static void example(String code) throws Exception {
    SharedBranch x = new SharedBranch();
    for (String line : code.split("\n")) {
      Matcher feed = FEED.matcher(line);
      Matcher call = CALL.matcher(line);
      if (feed.find()) {
        TestKit.feed(x, feed.group(1));
      } else if (call.find()) {
        TestKit.due(line, answer(x, call.group(1), call.group(2)), Integer.parseInt(call.group(3)));
      } else {
        boolean isOther = line.isEmpty() || line.startsWith("//") || line.startsWith("SharedBranch x");
        TestKit.holds("can't be run: " + line, isOther);
      }
    }
  }

  private static int answer(SharedBranch x, String name, String told) throws Exception {
    String[] words = told.isEmpty() ? new String[0] : told.split(", ");
    for (Method m : SharedBranch.class.getMethods()) {
      if (m.getName().equals(name) && m.getDeclaringClass() == SharedBranch.class) {
        Object[] args = new Object[words.length];
        for (int i = 0; i < words.length; i++) {
          args[i] = argument(m.getParameterTypes()[i], words[i]);
        }
        return (Integer) m.invoke(x, args);
      }
    }
    throw new IllegalStateException("no call " + name);
  }

  private static Object argument(Class<?> type, String word) {
    if (type == boolean.class) {
      return Boolean.parseBoolean(word);
    }
    return type == long.class ? (Object) Long.decode(word) : (Object) Integer.decode(word);
  }
}
