import java.nio.file.Files;
import java.nio.file.Path;
import java.util.List;

/** The file keeps to what of ../shared/LANGUAGE.md can be seen in its tree; and samples that break a rule are found out. */
public final class RulesTest {
  private static int wrong = 0;

  // The number of the rule that is broken, and what stands in a class by which it is.
  private static final String[][] BROKEN = {
    {"1", "public int asks() { return 1; } private static final class In { private int asks() { return 2; } }"},
    {"1", "private final class Inner { }"},
    {"1", "public static final class Seen { }"},
    {"2", "private Runnable r = () -> { };"},
    {"2", "private Runnable r = Sample::new;"},
    {"2", "private void does() { class Local { } }"},
    {"3", "private java.util.Map<Integer, Integer> map;"},
    {"3", "private int[][][] deep;"},
    {"3", "private String[] texts;"},
    {"3", "private Sample[][] own;"},
    {"4", "private long asks() { return System.nanoTime(); }"},
    {"4", "private int asks(int a) { return Math.addExact(a, 1); }"},
    {"4", "private final StringBuilder text = new StringBuilder();"},
    {"4", "private String asks() { return \"\u00e9\"; }"},
    {"5", "private static int state;"},
    {"5", "private static final int[] STATE = new int[2];"},
    {"5", "static { }"},
    {"6", "private void does() { try { does(); } catch (RuntimeException e) { } }"},
    {"6", "private void does() { throw new Error(); }"},
    {"6", "private void does(String why) { throw new IllegalStateException(why); }"},
    {"6", "Sample() { throw new IllegalStateException(); }"},
    {"6", "private void does(int a) { assert a > 0; }"},
    {"6", "private void does() { synchronized (this) { } }"},
    {"6", "private Sample asks(Object o) { return (Sample) o; }"},
    {"7", "private int asks(int a, int b) { return a / b; }"},
    {"7", "private int asks(int a, int b) { return a > 0 ? a % b : 0; }"},
    {"7", "private int asks(int a, int b) { int c = a; c %= b; return c; }"},
    {"8", "private int asks(int a) { return a > 0 ? asks(a - 1) : 0; }"},
    {"8", "private int asks(int a) { return a > 0 ? others(a - 1) : 0; } private int others(int a) { return asks(a); }"},
    {"9", "private void does() { for (;;) { } }"},
    {"9", "private void does(boolean b) { while (b) { } }"},
    {"9", "private void does(int a, boolean b) { do { } while (a < 3 || b); }"},
    {"10", "private String asks(String a) { return a + 1; }"},
    {"11", "private void does(int a, int b, int c, int d, int e, int f, int g, int h) { }"},
    {"11", "private void a() { b(); } private void b() { c(); } private void c() { d(); } private void d() { e(); } private void e() { f(); }"
        + " private void f() { g(); } private void g() { h(); } private void h() { i(); } private void i() { }"},
    {"11", "private void does() {\n" + "\n".repeat(60) + "}"},
    {"11", "private int a, b, c, d, e, f, g, h, i, j, k, l, m, n, o, p, q, r, s, t, u;"},
    {"11", classes(12)},
    {"12", "private int[] asks() { return new int[2]; }"},
    {"12", "private Sample asks() { return new Sample(); }"},
  };

  // What the rules allow, and stands near what they do not.
  private static final String[] KEPT = {
    "private static final int MOST = 5; private final int[] row = new int[MOST]; private final Part part = new Part();"
        + " private static final class Part { private final long[][] all = new long[2][3]; }",
    "private int asks(int a, int b) { return b > 0 ? a % b : a / 2; }",
    "private int asks(int a) { throw new IllegalArgumentException(\"why\"); }",
    "private void a() { b(); } private void b() { c(); } private void c() { d(); } private void d() { e(); } private void e() { f(); }"
        + " private void f() { g(); } private void g() { h(); } private void h() { }",
    "private void does(int a, int b, int c, int d, int e, int f, int g) { for (int i = 0; a != b && i < 9; i++) { } }",
    "private int a, b, c, d, e, f, g, h, i, j, k, l, m, n, o, p, q, r, s, t;",
    "private void does() {\n" + "\n".repeat(58) + "}",
    classes(11),
  };

  public static void main(String[] args) throws Exception {
    for (String finding : Rules.findings("CountedHeap", Files.readString(Path.of("src/main/java/CountedHeap.java")))) fails("CountedHeap: " + finding);
    for (String[] sample : BROKEN) {
      List<String> findings = sampled(sample[1]);
      if (findings.stream().noneMatch(f -> f.matches("rule " + sample[0] + "[,:].*"))) fails("rule " + sample[0] + " is not seen to be broken: " + sample[1] + ": " + findings);
    }
    for (String sample : KEPT) for (String finding : sampled(sample)) fails("no rule is broken: " + sample + ": " + finding);
    System.out.println("RulesTest: " + (BROKEN.length + KEPT.length) + " samples, " + wrong + " wrong");
    if (wrong != 0) System.exit(1);
  }

  private static void fails(String why) { wrong++; System.out.println(why); }

  private static List<String> sampled(String members) throws Exception {
    return Rules.findings("Sample", "public final class Sample {\n" + members + "\n}\n");
  }

  private static String classes(int n) {
    StringBuilder text = new StringBuilder();
    for (int i = 0; i < n; i++) text.append("private static final class In").append(i).append(" { }\n");
    return text.toString();
  }
}
