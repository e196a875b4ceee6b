import java.lang.reflect.Field;

/**
 * By the theorems behind it isSound is true of each net. So that its answer can be seen false, this test
 * reaches into the private fields and puts in there, clause by clause, what no call can bring about.
 * (That line ways are fewer than ways can't be put in: both are counted from the same lines.)
 */
public final class Soundness {
  private static int checks = 0;
  private static int wrong = 0;

  public static void main(String[] args) throws Exception {
    waysAndGap();
    lineWaysAndSide();
    handles();
    treesOfOnePart();
    treesOfMoreParts();
    colouring();
    blocks();
    bridges();
    digest();
    System.out.println(checks + " checks of what is sound, " + wrong + " were wrong");
    if (wrong != 0) System.exit(1);
  }

  /** One comes by no line of that point any more, but ways are counted by it. */
  private static void waysAndGap() throws Exception {
    for (int line = 0; line < 4; line++) {
      Twincuts x = ring();
      int[] ends = (int[]) get(get(x, "web"), "ends");
      ends[line] = 0;
      sound("fewer points in the gap than ways", x, false);
    }
  }

  /** Lines go out of a set by what its points know of them. */
  private static void lineWaysAndSide() throws Exception {
    Twincuts x = house(2);
    x.line(0, 1, 1);
    x.line(0, 1, 1);
    int[] linesAt = (int[]) get(get(x, "web"), "linesAt");
    linesAt[0] = 1;
    linesAt[1] = 1;
    sound("fewer lines out of the side than line ways", x, false);
    linesAt[0] = 7;
    linesAt[1] = 7;
    set(get(x, "web"), "standing", 7);
    sound("more lines out of the side than line ways", x, false);
  }

  private static void handles() throws Exception {
    Twincuts x = ring();
    set(get(x, "drawing"), "walked", 0);
    sound("a handle", x, true);
    set(get(x, "drawing"), "walked", 4);
    sound("a handle below 0", x, false);
  }

  private static void treesOfOnePart() throws Exception {
    Twincuts x = house(2);
    set(get(x, "drawing"), "walked", -2);
    sound("two parts without trees", x, true);
    set(get(x, "falls"), "parts", 1);
    sound("one part, but no tree", x, false);
  }

  private static void treesOfMoreParts() throws Exception {
    Twincuts x = ring();
    set(get(x, "falls"), "parts", 2);
    sound("trees, but two parts", x, false);
  }

  private static void colouring() throws Exception {
    for (int line = 0; line < 4; line++) {
      Twincuts x = house(8);
      for (int l = 0; l < 4; l++) x.line(2 * l, 2 * l + 1, 1);
      int[] colour = (int[]) get(get(x, "palette"), "colour");
      colour[2 * line + 1] = colour[2 * line];
      sound("two linked points of the same colour", x, false);
      x.cut(line, true);
      sound("two points of the same colour that are not linked", x, true);
    }
  }

  private static void blocks() throws Exception {
    for (int line = 0; line < 4; line++) {
      Twincuts x = ring();
      int[] block = (int[]) get(get(x, "falls"), "block");
      block[line] = -1;
      sound("a line that stands in no block", x, false);
      block[line] = 1;
      sound("a block that there is not", x, false);
      x.cut(line, true);
      block[line] = 0;
      sound("a cut line in a block", x, false);
    }
  }

  private static void bridges() throws Exception {
    for (int line = 0; line < 4; line++) {
      Twincuts x = ring();
      set(get(x, "falls"), "bridgeSet", 1 << line);
      sound("a bridge with others in its block", x, false);
    }
  }

  /** The checksum of the same answers, with 0 at the end. */
  private static void digest() throws Exception {
    Twincuts x = house(2);
    x.line(0, 1, 1);
    long before = x.digest();
    int[] colour = (int[]) get(get(x, "palette"), "colour");
    colour[0] = 1;
    sound("two linked points of the same colour", x, false);
    long behindColour = 1;
    for (int k = 0; k < 2 + 1 + 6 + 8 + 9 + 2; k++) behindColour *= 31;
    check("the digest of what is not sound", x.digest(), before + behindColour - 1);
  }

  // ---- how it is done

  private static Twincuts house(int points) {
    Twincuts x = new Twincuts();
    for (int p = 0; p < points; p++) x.point();
    sound("as it was made", x, true);
    return x;
  }

  private static Twincuts ring() {
    Twincuts x = house(4);
    for (int p = 0; p < 4; p++) x.line(p, (p + 1) % 4, 1);
    sound("as it was made", x, true);
    return x;
  }

  private static Object get(Object of, String name) throws Exception {
    return field(of, name).get(of);
  }

  private static void set(Object of, String name, int value) throws Exception {
    field(of, name).setInt(of, value);
  }

  private static Field field(Object of, String name) throws Exception {
    Field field = of.getClass().getDeclaredField(name);
    field.setAccessible(true);
    return field;
  }

  private static void sound(String what, Twincuts x, boolean due) {
    check(what, x.isSound() ? 1 : 0, due ? 1 : 0);
  }

  private static void check(String what, long got, long due) {
    checks++;
    if (got != due) {
      wrong++;
      System.out.println(what + ": answered " + got + ", due is " + due);
    }
  }
}
