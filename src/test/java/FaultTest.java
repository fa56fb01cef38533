/** Texts with their first fault and its place, and texts that just have none. */
public final class FaultTest {
  public static void main(String[] args) {
    firstLines();
    numbersAndNames();
    edges();
    sums();
    families();
    signsCounted();
    nesting();
    bytes();
    puts();
    TestKit.finish("FaultTest");
  }

  private static void fine(String text, int lines) {
    TestKit.fine(text, lines);
  }

  private static void faulty(String text, int kind, int place) {
    TestKit.faulty(text, kind, place);
  }

  private static void firstLines() {
    fine("", 0);
    fine("  \n ", 0);
    fine("names 1;", 1);
    fine("names10;", 1);
    fine("names\n007 ;", 1);
    faulty("names", 1, 5);
    faulty("names  ", 1, 7);
    faulty("names 3", 1, 7);
    faulty("names 3 ", 1, 8);
    faulty("names ;", 1, 6);
    faulty("names a;", 1, 6);
    faulty("names 0;", 2, 6);
    faulty("names 11;", 2, 6);
    faulty("names 99999999999999999999999999999999;", 2, 6);
    faulty("names 4294967297;", 2, 6);
    faulty("names 3 3;", 1, 8);
    faulty("names -3;", 1, 6);
    faulty("weight a 3;", 1, 0);
    faulty(" let 0 = {};", 1, 1);
    faulty("edge 0 1;", 1, 0);
    faulty("name 3;", 1, 0);
    faulty("namesx 3;", 1, 0);
    faulty("3;", 1, 0);
    faulty(";", 1, 0);
    faulty("names 3;;", 1, 8);
    faulty("names 3; names 3;", 1, 9);
    faulty("names 3; foo 3;", 1, 9);
    faulty("names 3; all;", 1, 9);
    faulty("names 3; min 0;", 1, 9);
    faulty("names 3; 5;", 1, 9);
  }

  private static void numbersAndNames() {
    fine("names 2; weight b 0; weight a 99;", 3);
    faulty("names 2; weight c 1;", 2, 16);
    faulty("names 2; weight z 1;", 2, 16);
    faulty("names 2; weight ab 1;", 1, 16);
    faulty("names 2; weight 0 1;", 1, 16);
    faulty("names 2; weight ;", 1, 16);
    faulty("names 2; weight a 100;", 2, 18);
    faulty("names 2; weight a b;", 1, 18);
    faulty("names 2; weight a;", 1, 17);
    faulty("names 2; weight a 1", 1, 19);
    fine("names 2; let 9 = 9;", 2);
    faulty("names 2; let 10 = 9;", 2, 13);
    faulty("names 2; let a = 9;", 1, 13);
    faulty("names 2; let 0 9;", 1, 15);
    faulty("names 2; let 0 = 10;", 2, 17);
    faulty("names 2; let 0 = ;", 1, 17);
  }

  private static void edges() {
    fine("names 2; edge 0 7; edge 7 0;", 3);
    faulty("names 2; edge 0 8;", 2, 16);
    faulty("names 2; edge 8 0;", 2, 14);
    faulty("names 2; edge 8 8;", 2, 14);
    faulty("names 2; edge 3 3;", 2, 16);
    faulty("names 2; edge 3 03;", 2, 16);
    faulty("names 2; edge 3;", 1, 15);
    faulty("names 2; edge 3 a;", 1, 16);
    faulty("names 1; edge 0 1; edge 1 2;", 3, 19);
    faulty("names 1; edge 0 1; edge ?", 3, 19);
    faulty("names 1; edge 0 1; let edge", 1, 23);
  }

  private static void sums() {
    fine("names 2; let 0 = min 1 + (2 - all) * not {a,b};", 2);
    faulty("names 2; let 0 = a;", 1, 17);
    faulty("names 2; let 0 = minx 1;", 1, 17);
    faulty("names 2; let 0 = names;", 1, 17);
    faulty("names 2; let 0 = let 1;", 1, 17);
    faulty("names 2; let 0 = min;", 1, 20);
    faulty("names 2; let 0 = min + 1;", 1, 21);
    faulty("names 2; let 0 = 1 1;", 1, 19);
    faulty("names 2; let 0 = 1 min 1;", 1, 19);
    faulty("names 2; let 0 = 1 + ;", 1, 21);
    faulty("names 2; let 0 = + 1;", 1, 17);
    faulty("names 2; let 0 = 1 + + 1;", 1, 21);
    faulty("names 2; let 0 = (1;", 1, 19);
    faulty("names 2; let 0 = ();", 1, 18);
    faulty("names 2; let 0 = 1);", 1, 18);
    faulty("names 2; let 0 = {a);", 1, 19);
    faulty("names 2; let 0 = 1 = 1;", 1, 19);
    faulty("names 2; let 0 = 1", 1, 18);
  }

  private static void families() {
    fine("names 3; let 0 = {}; let 1 = { 0 , abc,c\n};", 3);
    faulty("names 3; let 0 = {d};", 2, 18);
    faulty("names 3; let 0 = {abd};", 2, 18);
    faulty("names 3; let 0 = {aa};", 2, 18);
    faulty("names 3; let 0 = {aba};", 2, 18);
    faulty("names 3; let 0 = {all};", 2, 18);
    faulty("names 3; let 0 = {min};", 2, 18);
    faulty("names 3; let 0 = {1};", 2, 18);
    faulty("names 3; let 0 = {a,10};", 2, 20);
    faulty("names 3; let 0 = {a0};", 1, 19);
    faulty("names 3; let 0 = {a b};", 1, 20);
    faulty("names 3; let 0 = {,a};", 1, 18);
    faulty("names 3; let 0 = {a,};", 1, 20);
    faulty("names 3; let 0 = {a,,b};", 1, 20);
    faulty("names 3; let 0 = {{a}};", 1, 18);
    faulty("names 3; let 0 = {a", 1, 19);
    faulty("names 3; let 0 = {", 1, 18);
    faulty("names 3; let 0 = {A};", 1, 18);
  }

  private static void signsCounted() {
    String many = "0" + "+0-0&0*0/0%0#0+0".repeat(3);
    fine("names 1; let 0 = " + many + ";", 2);
    faulty("names 1; let 0 = " + many + "+0;", 3, 17 + many.length());
    faulty("names 1; let 0 = " + many + "+;", 3, 17 + many.length());
    faulty("names 1; let 0 = " + many + "#?", 3, 17 + many.length());
    fine("names 1; let 0 = " + many + "; let 1 = 0;", 3);
    faulty("names 1; let 0 = " + many + "; let 1 = 0 - 0;", 3, 17 + many.length() + 12);
    faulty("names 1; let 0 = " + many + "; let 1 = - 0;", 1, 17 + many.length() + 10);
  }

  private static void nesting() {
    fine("names 1; let 0 = ((((((0))))));", 2);
    faulty("names 1; let 0 = (((((((0)))))));", 3, 23);
    fine("names 1; let 0 = min max hit not up down 0;", 2);
    faulty("names 1; let 0 = min max hit not up down min 0;", 3, 41);
    faulty("names 1; let 0 = min max hit not up down (0);", 3, 41);
    faulty("names 1; let 0 = ((( min min min down;", 3, 33);
    fine("names 1; let 0 = min min min min min min all;", 2);
    fine("names 1; let 0 = ((((((0)+(0))+(0))+min 0)));", 2);
    fine("names 1; let 0 = min min min min min min 0 + min min min min min min {};", 2);
    faulty("names 1; let 0 = ((((((0 min;", 1, 25);
    faulty("names 1; let 0 = ((((((0)))))) + (((((((", 3, 39);
    faulty("names 1; let 0 = ((((((?", 1, 23);
  }

  private static void bytes() {
    faulty("names 3;\t", 1, 8);
    faulty("Names 3;", 1, 0);
    faulty("names 3; let 0 = 1 . 2;", 1, 19);
    faulty("names 3; let 0 = 1 | 2;", 1, 19);
    faulty("names 3; let 0 = 1" + (char) 0 + ";", 1, 18);
    faulty("names 3;" + (char) 255, 1, 8);
    faulty("names 3;" + (char) 13, 1, 8);
    faulty("names 3; let 0 = {" + (char) 225 + "};", 1, 18);
  }

  private static void putFaulty(String text, int kind, int place) {
    SharedBranch x = TestKit.withWorld("names 3; let 4 = {a};");
    TestKit.due("put " + text, TestKit.put(x, 4, text), -4);
    TestKit.due("fault(0) of put " + text, x.fault(0), kind);
    TestKit.due("fault(1) of put " + text, x.fault(1), place);
    TestKit.due("all stays by put " + text, x.size(4), 1);
  }

  private static void puts() {
    putFaulty("", 1, 0);
    putFaulty("  ", 1, 2);
    putFaulty("4;", 1, 1);
    putFaulty("let 4 = 4;", 1, 0);
    putFaulty("4 4", 1, 2);
    putFaulty("{d}", 2, 1);
    putFaulty("10", 2, 0);
    putFaulty("(((((((", 3, 6);
    putFaulty("4" + "+4".repeat(25), 3, 49);
    putFaulty("4)", 1, 1);
    SharedBranch x = TestKit.withWorld("names 3; let 4 = {a}" + "+0".repeat(24) + ";");
    TestKit.due("each text has signs of its own", TestKit.put(x, 4, "4" + "+4".repeat(24)), 1);
    fullTape();
  }

  /** A text of all 600 bytes, with as many tokens as can be. */
  private static void fullTape() {
    StringBuilder text = new StringBuilder("names 3;let 0={0");
    while (text.length() < 597) {
      text.append(",a");
    }
    while (text.length() < 598) {
      text.append(' ');
    }
    text.append("};");
    fine(text.toString(), 2);
    text.setCharAt(599, '}');
    faulty(text.toString(), 1, 599);
    text.setCharAt(598, ' ');
    text.setCharAt(599, ' ');
    faulty(text.toString(), 1, 600);
  }
}
