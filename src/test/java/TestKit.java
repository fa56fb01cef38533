/** What the tests share: feeding texts, and telling answers that are not due. */
final class TestKit {
  private static int asked = 0;
  private static int wrong = 0;
  private static String context = "";

  private TestKit() {}

  /** What is said ahead of each answer that is not due. */
  static void about(String what) {
    context = what.isEmpty() ? "" : what + " | ";
  }

  static int asked() {
    return asked;
  }

  static void due(String call, long got, long want) {
    asked++;
    if (got != want) {
      tell(call + " answered " + got + ", due is " + want);
    }
  }

  static void due(String call, String got, String want) {
    asked++;
    if (!got.equals(want)) {
      tell(call + " is " + got + ", due is " + want);
    }
  }

  private static void tell(String what) {
    wrong++;
    if (wrong <= 100) {
      System.out.println(context + what);
    }
  }

  static void holds(String what, boolean is) {
    due(what, is ? 1 : 0, 1);
  }

  static void finish(String test) {
    System.out.println(test + ": " + asked + " asked, " + wrong + " wrong");
    if (wrong != 0) {
      System.exit(1);
    }
  }

  static int[] fiveNumbers(byte[] bytes, int from) {
    int[] five = new int[5];
    for (int i = 0; i < 20; i++) {
      int b = from + i < bytes.length ? bytes[from + i] & 255 : 32;
      five[i / 4] |= b << (24 - 8 * (i % 4));
    }
    return five;
  }

  static byte[] bytesOf(String text) {
    byte[] bytes = new byte[text.length()];
    for (int i = 0; i < bytes.length; i++) {
      bytes[i] = (byte) text.charAt(i);
    }
    return bytes;
  }

  /** Feeds a text to an empty tape: in steps of twenty bytes, then cut. */
  static void feed(SharedBranch x, byte[] bytes) {
    for (int from = 0; from < bytes.length; from += 20) {
      int[] five = fiveNumbers(bytes, from);
      due("feed to " + (from + 20), x.feed(five[0], five[1], five[2], five[3], five[4]), from + 20);
    }
    due("end(" + bytes.length + ")", x.end(bytes.length), bytes.length);
  }

  static void feed(SharedBranch x, String text) {
    feed(x, bytesOf(text));
  }

  static int world(SharedBranch x, String text) {
    feed(x, bytesOf(text));
    return x.world();
  }

  static int put(SharedBranch x, int p, String text) {
    feed(x, bytesOf(text));
    return x.put(p);
  }

  static SharedBranch withWorld(String text) {
    SharedBranch x = new SharedBranch();
    holds("world of " + text, world(x, text) > 0);
    return x;
  }

  static void fine(String text, int lines) {
    SharedBranch x = new SharedBranch();
    due("world of " + text, world(x, text), lines);
    due("fault(0) of " + text, x.fault(0), 0);
    due("fault(1) of " + text, x.fault(1), -1);
  }

  static void faulty(String text, int kind, int place) {
    SharedBranch x = new SharedBranch();
    due("world of " + text, world(x, text), -4);
    due("fault(0) of " + text, x.fault(0), kind);
    due("fault(1) of " + text, x.fault(1), place);
    due("no world by " + text, x.count(0), 0);
  }

  /** A family as its sets in words of names, by number: "0,a,b,ab". */
  static String told(SharedBranch x, int p) {
    StringBuilder all = new StringBuilder();
    for (int i = 0; i < 1024; i++) {
      int set = x.nth(p, i);
      if (set < 0) {
        break;
      }
      if (i > 0) {
        all.append(',');
      }
      all.append(word(set));
    }
    return all.toString();
  }

  static String word(int set) {
    if (set == 0) {
      return "0";
    }
    StringBuilder word = new StringBuilder();
    for (int name = 0; name < 10; name++) {
      if ((set >> name & 1) != 0) {
        word.append((char) ('a' + name));
      }
    }
    return word.toString();
  }

  static void told(String what, SharedBranch x, int p, String want) {
    due(what, told(x, p), want);
  }
}
