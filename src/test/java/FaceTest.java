import java.lang.reflect.Constructor;
import java.lang.reflect.Field;
import java.lang.reflect.Method;
import java.lang.reflect.Modifier;
import java.nio.file.Files;
import java.nio.file.Path;
import java.util.Set;
import java.util.TreeSet;
import java.util.regex.Matcher;
import java.util.regex.Pattern;

/** The face is the document's, no more and no less; the source keeps to the rules that can be looked up. */
public final class FaceTest {
  private static final String[] FACE = {
    "feed(int,int,int,int,int)", "end(int)", "world()", "put(int)", "fault(int)", "size(int)", "has(int,int)",
    "makes(int,int,int,int)", "turn(int,int,int)", "sets(int,int,boolean)", "change(int,int,int)",
    "half(int,int,int,boolean)", "level(int,int,int)", "nth(int,int)", "rank(int,int)", "light(int,int)",
    "weight(int)", "weigh(int,int)", "weighs(int,int)", "each(int,int)", "names(int,int)", "draw(int,int)",
    "alike(int,int)", "differ(int,int)", "within(int,int)", "dual(int,int)", "apart(int,int)", "packs(int,int)",
    "nodes(int)", "net()", "wide(int,int)", "order(int)", "swap(int)", "move(int,int)", "best(int,int)", "sift(int)",
    "ways(int,int,int)", "map(int,int)", "cuts(int,int,int)", "judge(int,int)", "takes(int,int)", "count(int)",
    "keep(int)", "back(int)", "row(int,int,int)", "write(int,int,long)", "paste(int,int,int,int,int)"
  };

  public static void main(String[] args) throws Exception {
    face();
    classes();
    source();
    TestKit.finish("FaceTest");
  }

  private static void face() throws Exception {
    Class<?> c = SharedBranch.class;
    TestKit.holds("public and final", Modifier.isPublic(c.getModifiers()) && Modifier.isFinal(c.getModifiers()));
    Set<String> due = new TreeSet<>(java.util.List.of(FACE));
    TestKit.due("promises 2 to 48", due.size(), 47);
    for (Method m : c.getDeclaredMethods()) {
      if (Modifier.isPrivate(m.getModifiers())) {
        continue;
      }
      String told = m.toString();
      String shortly = m.getName() + told.substring(told.indexOf('('));
      TestKit.holds(shortly + " is of the face", due.remove(shortly) && Modifier.isPublic(m.getModifiers()));
      TestKit.holds(shortly + " answers int", m.getReturnType() == int.class && !Modifier.isStatic(m.getModifiers()));
    }
    TestKit.holds("missing: " + due, due.isEmpty());
    for (Field f : c.getDeclaredFields()) {
      TestKit.holds("field " + f.getName(), Modifier.isPrivate(f.getModifiers()) || f.getName().equals("NONE"));
    }
    Field none = c.getField("NONE");
    TestKit.holds("NONE is a constant", none.getType() == int.class && Modifier.isFinal(none.getModifiers()));
    Constructor<?>[] made = c.getDeclaredConstructors();
    TestKit.holds("one public constructor", made.length == 1 && Modifier.isPublic(made[0].getModifiers()));
    TestKit.due("that asks for nothing", made[0].getParameterCount(), 0);
  }

  private static void classes() {
    Set<String> faceNames = new TreeSet<>();
    for (String call : FACE) {
      faceNames.add(call.substring(0, call.indexOf('(')));
    }
    Class<?>[] inside = SharedBranch.class.getDeclaredClasses();
    TestKit.holds("classes: " + inside.length, inside.length <= 12);
    for (Class<?> c : inside) {
      TestKit.holds(c + " is static", Modifier.isStatic(c.getModifiers()) && !Modifier.isPublic(c.getModifiers()));
      for (Method m : c.getDeclaredMethods()) {
        TestKit.holds(m + " has a name of its own", !faceNames.contains(m.getName()));
        TestKit.holds(m + " is not synthetic", !m.isSynthetic());
        TestKit.holds(m + " takes at most seven", m.getParameterCount() <= 7);
      }
      fields(c);
    }
    fields(SharedBranch.class);
    for (Method m : SharedBranch.class.getDeclaredMethods()) {
      TestKit.holds(m + " has a name of its own",
          Modifier.isPublic(m.getModifiers()) || !faceNames.contains(m.getName()));
    }
  }

  private static void fields(Class<?> c) {
    int own = 0;
    for (Field f : c.getDeclaredFields()) {
      if (Modifier.isStatic(f.getModifiers())) {
        TestKit.holds(f + " is final", Modifier.isFinal(f.getModifiers()));
        TestKit.holds(f + " is a constant", f.getType() == int.class || f.getType() == long.class
            || f.getType() == long[].class || f.getType() == int[].class);
      } else {
        own++;
      }
    }
    TestKit.holds(c + " has " + own + " fields", own <= 20);
  }

  private static void source() throws Exception {
    String text = Files.readString(Path.of("src/main/java/SharedBranch.java"));
    String code = text.replaceAll("(?s)/\\*.*?\\*/", " ").replaceAll("//[^\n]*", " ");
    String[] barred = {
      "throw", "throws", "try", "catch", "finally", "synchronized", "assert", "package", "protected", "native",
      "volatile", "transient", "strictfp", "instanceof", "Object", "System\\.out", "System\\.nano", "System\\.current",
      "Thread", "Random", "->", "::", "hashCode", "toString", "\\w+Exact", "getClass"
    };
    for (String word : barred) {
      boolean isWord = Character.isLetter(word.charAt(0)) || word.charAt(0) == '\\';
      Matcher found = Pattern.compile(isWord ? "\\b" + word + "\\b" : word).matcher(code);
      TestKit.holds("the source has " + word, !found.find());
    }
    Matcher imports = Pattern.compile("import ([^;]*);").matcher(code);
    while (imports.find()) {
      TestKit.holds("import " + imports.group(1), imports.group(1).equals("java.util.Arrays"));
    }
    for (int i = 0; i < text.length(); i++) {
      TestKit.holds("a sign of the source", text.charAt(i) == '\n' || text.charAt(i) >= 32 && text.charAt(i) < 127);
    }
    library(code);
    methods(text);
  }

  /** Rule 4 lists functions of the library, and none of its constants. */
  private static void library(String code) {
    Set<String> listed = Set.of("Integer.bitCount", "Long.bitCount", "Long.numberOfTrailingZeros", "Math.max",
        "Math.min", "System.arraycopy", "Arrays.fill");
    Matcher used = Pattern.compile("\\b((?:Integer|Long|Math|System|Arrays|String|List)\\.\\w+)(\\(?)").matcher(
        code.replaceAll("import [^;]*;", ""));
    while (used.find()) {
      TestKit.holds("the library's " + used.group(1), listed.contains(used.group(1)) && used.group(2).equals("("));
    }
  }

  /** Methods end with a brace as far in as they begin. */
  private static void methods(String text) {
    String[] lines = text.split("\n");
    for (int i = 0; i < lines.length; i++) {
      Matcher head = Pattern.compile("^(  |    )\\w[^=;(]*?(\\w+)\\(.*\\) \\{$").matcher(lines[i]);
      if (!head.find()) {
        continue;
      }
      int end = i + 1;
      boolean callsItself = false;
      while (end < lines.length && !lines[end].equals(head.group(1) + "}")) {
        callsItself |= Pattern.compile("(?<![\\w.])" + head.group(2) + "\\(").matcher(lines[end]).find();
        end++;
      }
      TestKit.holds("lines of " + lines[i].trim() + ": " + (end - i + 1), end - i + 1 <= 60);
      // rule 8: a method that calls itself is private and static
      TestKit.holds(lines[i].trim() + " calls itself", !callsItself || lines[i].trim().startsWith("private static "));
    }
  }
}
