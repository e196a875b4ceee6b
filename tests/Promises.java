/** Each promise of the document by hand: ordinary calls, the edges that it names, and wrong calls. */
public final class Promises {
  private static int checks = 0;
  private static int wrong = 0;

  public static void main(String[] args) {
    newObject();
    point();
    line();
    lineRefusesInOrder();
    cut();
    price();
    turn();
    knock();
    ofPoint();
    ofLine();
    cheapestTakesTheFirstOfTheSameCost();
    blocksOfLikeLines();
    net();
    colouring();
    pair();
    twin();
    between();
    gapIsTheSmallestNumber();
    sideHasTheFewestPoints();
    trees();
    order();
    row();
    without();
    wouldLink();
    wouldTurn();
    isSound();
    digest();
    wrongCallsChangeNothing();
    questionsChangeNothing();
    System.out.println(checks + " checks of the promises, " + wrong + " were wrong");
    if (wrong != 0) System.exit(1);
  }

  // ---- promises 1 to 7

  private static void newObject() {
    Twincuts x = new Twincuts();
    int[] due = {0, 0, 0, 0, 0, 0, 0, 0, 0, -1, 0, 0, 0, 0, 0};
    for (int what = 0; what < due.length; what++) eq("P1 net of a new object " + what, x.net(what), due[what]);
    eq("P1 trees of a new object", x.trees(), 0);
    eq("P1 without of a new object", x.without(0, 0), 0);
    eq("P1 pair of a new object", x.pair(0, false), -1);
    eq("P1 twin of a new object", x.twin(0, true), -1);
    Twincuts other = new Twincuts();
    x.point();
    x.knock();
    eq("P1 objects have nothing together", other.net(0) + other.net(14), 0);
  }

  private static void point() {
    Twincuts x = new Twincuts();
    for (int k = 0; k < 8; k++) {
      eq("P2 point", x.point(), k);
      eq("P2 points", x.net(0), k + 1);
      eq("P2 parts", x.net(3), k + 1);
    }
    refuses("P2 a ninth point", "IllegalStateException", () -> x.point());
    refuses("P2 again", "IllegalStateException", () -> x.point());
    eq("P2 still 8", x.net(0), 8);
  }

  private static void line() {
    Twincuts x = house(3);
    eq("P3 line", x.line(2, 0, 20), 0);
    eq("P3 smaller", x.ofLine(0, 0), 0);
    eq("P3 greater", x.ofLine(0, 1), 2);
    eq("P3 cost", x.ofLine(0, 2), 20);
    eq("P3 stands", x.ofLine(0, 3), 1);
    eq("P3 line of the same two", x.line(0, 2, 1), 1);
    eq("P3 at the end of one", x.order(0, 1), 1);
    eq("P3 at the end of both", x.order(2, 1), 1);
    for (int k = 2; k < 16; k++) eq("P3 line " + k, x.line(k % 2, 2, k), k);
    refuses("P3 a line too many", "IllegalStateException", () -> x.line(0, 1, 1));
    x.cut(3, true);
    refuses("P3 a cut line counts", "IllegalStateException", () -> x.line(0, 1, 1));
    eq("P3 still 16", x.net(1), 16);
  }

  private static void lineRefusesInOrder() {
    Twincuts x = house(2);
    String index = "IndexOutOfBoundsException";
    String argument = "IllegalArgumentException";
    for (int full = 0; full < 2; full++) {
      refuses("P3 one below", index, () -> x.line(-1, 1, 1));
      refuses("P3 other below", index, () -> x.line(0, -1, 1));
      refuses("P3 one above", index, () -> x.line(2, 1, 1));
      refuses("P3 other above", index, () -> x.line(0, 2, 1));
      refuses("P3 far away", index, () -> x.line(Integer.MIN_VALUE, Integer.MAX_VALUE, 1));
      refuses("P3 no points before the same", index, () -> x.line(2, 2, 1));
      refuses("P3 no point before the cost", index, () -> x.line(0, 2, 0));
      refuses("P3 the same", argument, () -> x.line(1, 1, 1));
      refuses("P3 cost 0", argument, () -> x.line(0, 1, 0));
      refuses("P3 cost 21", argument, () -> x.line(0, 1, 21));
      refuses("P3 cost below", argument, () -> x.line(0, 1, Integer.MIN_VALUE));
      for (int k = 0; full == 0 && k < 16; k++) x.line(0, 1, 1 + k);
    }
    refuses("P3 at last too many", "IllegalStateException", () -> x.line(0, 1, 1));
  }

  private static void cut() {
    Twincuts x = path(4);
    eq("P4 cut", x.cut(1, true), 2);
    eq("P4 is cut", x.ofLine(1, 3), 0);
    eq("P4 cut again", x.cut(1, true), 2);
    eq("P4 another", x.cut(0, true), 3);
    eq("P4 stands again", x.cut(1, false), 2);
    eq("P4 stands still", x.cut(1, false), 2);
    eq("P4 all stand", x.cut(0, false), 1);
    refuses("P4 no line", "IndexOutOfBoundsException", () -> x.cut(3, true));
    refuses("P4 below", "IndexOutOfBoundsException", () -> x.cut(-1, false));
  }

  private static void price() {
    Twincuts x = path(3);
    eq("P5 price", x.price(1, 20), 1);
    eq("P5 that before", x.price(1, 2), 20);
    eq("P5 cost", x.ofLine(1, 2), 2);
    eq("P5 cheapest", x.net(9), 3);
    refuses("P5 no line", "IndexOutOfBoundsException", () -> x.price(2, 1));
    refuses("P5 no line before cost", "IndexOutOfBoundsException", () -> x.price(-1, 0));
    refuses("P5 cost 0", "IllegalArgumentException", () -> x.price(1, 0));
    refuses("P5 cost 21", "IllegalArgumentException", () -> x.price(1, 21));
    x.cut(1, true);
    eq("P5 of a cut line", x.price(1, 5), 2);
    eq("P5 is kept", x.ofLine(1, 2), 5);
  }

  private static void turn() {
    Twincuts x = house(4);
    x.line(0, 1, 1);
    x.line(0, 2, 1);
    x.line(0, 3, 1);
    eq("P6 turn", x.turn(0, 0), 1);
    same("P6 row", x.row(0), "-2-1-3");
    x.turn(0, 2);
    same("P6 the last and the first", x.row(0), "-3-1-2");
    eq("P6 a line alone", x.turn(1, 0), 1);
    same("P6 it stays", x.row(1), "-0");
    refuses("P6 no place", "IndexOutOfBoundsException", () -> x.turn(0, 3));
    refuses("P6 place below", "IndexOutOfBoundsException", () -> x.turn(0, -1));
    refuses("P6 no point", "IndexOutOfBoundsException", () -> x.turn(4, 0));
    refuses("P6 point below", "IndexOutOfBoundsException", () -> x.turn(-1, 0));
    Twincuts y = house(4);
    for (int k = 0; k < 3; k++) y.line(0, 1, 1);
    eq("P6 three like lines, two lonely points", y.net(11), 3);
    eq("P6 they lie flat", y.turn(1, 0), 5);
    y.cut(1, true);
    same("P6 cut ones are in the order, too", y.row(1), "x0-0-0");
    y.turn(1, 0);
    same("P6 and are turned", y.row(1), "-0x0-0");
    Twincuts z = house(1);
    refuses("P6 no lines", "IndexOutOfBoundsException", () -> z.turn(0, 0));
  }

  // ---- promises 7 to 10

  private static void knock() {
    Twincuts x = new Twincuts();
    for (int k = 1; k <= 5; k++) eq("P7 knock", x.knock(), k);
    eq("P7 refused", x.net(14), 5);
  }

  private static void ofPoint() {
    Twincuts x = house(6);
    x.line(4, 2, 1);
    x.line(2, 0, 1);
    x.line(0, 4, 1);
    x.line(4, 5, 1);
    x.line(5, 4, 1);
    x.line(1, 4, 1);
    int[][] due = {
      {0, 2, 0, 1, 0, 20, 2}, {0, 1, 0, 1, 0, 16, 1}, {0, 2, 0, 1, 1, 17, 2},
      {1, 0, 0, 0, 0, 0, 0}, {0, 5, 1, 3, 2, 39, 5}, {0, 2, 0, 1, 0, 16, 2}};
    for (int p = 0; p < due.length; p++) {
      for (int what = 0; what <= 6; what++) eq("P8 ofPoint " + p + " " + what, x.ofPoint(p, what), due[p][what]);
    }
    x.cut(5, true);
    int[][] then = {{1, 0, 0, 0, 0, 0, 1}, {2, 0, 0, 0, 0, 0, 0}, {0, 4, 1, 2, 2, 37, 5}};
    int[] points = {1, 3, 4};
    for (int k = 0; k < points.length; k++) {
      for (int what = 0; what <= 6; what++) eq("P8 then " + points[k] + " " + what, x.ofPoint(points[k], what), then[k][what]);
    }
    refuses("P8 no point", "IndexOutOfBoundsException", () -> x.ofPoint(6, 0));
    refuses("P8 no point before what", "IndexOutOfBoundsException", () -> x.ofPoint(-1, 7));
    refuses("P8 what", "IllegalArgumentException", () -> x.ofPoint(5, 7));
    refuses("P8 what below", "IllegalArgumentException", () -> x.ofPoint(0, -1));
  }

  private static void ofLine() {
    Twincuts x = house(5);
    x.line(1, 0, 7);
    x.line(3, 2, 6);
    x.line(2, 1, 5);
    x.line(1, 3, 4);
    int[][] due = {
      {0, 1, 7, 1, 1, 0, 0, 0, 0}, {2, 3, 6, 1, 0, 1, 0, 0, 1}, {1, 2, 5, 1, 0, 1, 0, 0, 1}, {1, 3, 4, 1, 0, 1, 0, 1, 0}};
    for (int l = 0; l < due.length; l++) {
      for (int what = 0; what <= 8; what++) eq("P9 ofLine " + l + " " + what, x.ofLine(l, what), due[l][what]);
    }
    x.line(4, 3, 20);
    for (int l = 0; l < 5; l++) eq("P9 cheapest " + l, x.ofLine(l, 6), l == 1 ? 0 : 1);
    x.cut(2, true);
    int[] cutLine = {1, 2, 5, 0, 0, -1, 0, -1, -1};
    for (int what = 0; what <= 8; what++) eq("P9 cut " + what, x.ofLine(2, what), cutLine[what]);
    eq("P9 a bridge now", x.ofLine(3, 4), 1);
    eq("P9 a block now", x.ofLine(3, 5), 2);
    refuses("P9 no line", "IndexOutOfBoundsException", () -> x.ofLine(5, 0));
    refuses("P9 no line before what", "IndexOutOfBoundsException", () -> x.ofLine(-1, 9));
    refuses("P9 what", "IllegalArgumentException", () -> x.ofLine(4, 9));
    refuses("P9 what below", "IllegalArgumentException", () -> x.ofLine(0, -1));
  }

  private static void cheapestTakesTheFirstOfTheSameCost() {
    Twincuts x = house(3);
    x.line(0, 1, 4);
    x.line(1, 2, 4);
    x.line(0, 2, 4);
    eq("P9 first", x.ofLine(0, 6), 1);
    eq("P9 second", x.ofLine(1, 6), 1);
    eq("P9 third not", x.ofLine(2, 6), 0);
    x.price(0, 5);
    eq("P9 dearer not", x.ofLine(0, 6), 0);
    eq("P9 third now", x.ofLine(2, 6), 1);
    x.cut(2, true);
    eq("P9 cut not", x.ofLine(2, 6), 0);
    eq("P10 its cost", x.net(9), 9);
    x.point();
    eq("P10 none", x.net(9), -1);
    for (int l = 0; l < 3; l++) eq("P9 in none", x.ofLine(l, 6), 0);
  }

  private static void blocksOfLikeLines() {
    Twincuts x = house(2);
    x.line(0, 1, 1);
    eq("P9 a bridge", x.ofLine(0, 4), 1);
    x.line(1, 0, 1);
    eq("P9 no bridge", x.ofLine(0, 4), 0);
    eq("P9 one block", x.ofLine(1, 5), 0);
    eq("P10 blocks", x.net(6), 1);
    eq("P10 they are no twins of a part that stays", x.net(8), 1);
    x.line(1, 0, 1);
    eq("P10 no twins of three", x.net(8), 0);
  }

  private static void net() {
    Twincuts x = house(8);
    int[][] lines = {{0, 1, 3}, {1, 2, 3}, {2, 0, 5}, {2, 3, 1}, {3, 4, 2}, {4, 5, 2}, {5, 6, 9}, {6, 3, 4}, {6, 7, 1}, {7, 6, 2}};
    for (int[] l : lines) x.line(l[0], l[1], l[2]);
    int[] due = {8, 10, 10, 1, 1, 3, 4, 0, 10, 16, 3, 4, 0, 4, 0};
    for (int what = 0; what <= 14; what++) eq("P10 net " + what, x.net(what), due[what]);
    x.cut(3, true);
    int[] then = {8, 10, 9, 2, 0, 1, 3, 1, 10, -1, 3, 5, 0, 3, 0};
    for (int what = 0; what <= 14; what++) eq("P10 then " + what, x.net(what), then[what]);
    refuses("P10 what", "IllegalArgumentException", () -> x.net(15));
    refuses("P10 what below", "IllegalArgumentException", () -> x.net(-1));
  }

  private static void colouring() {
    Twincuts x = path(8);
    for (int p = 0; p < 8; p++) eq("P8 a path " + p, x.ofPoint(p, 4), p % 2);
    Twincuts y = path(5);
    y.line(4, 0, 1);
    int[] due = {0, 1, 0, 1, 2};
    eq("P10 three colours", y.net(10), 3);
    for (int p = 0; p < 5; p++) eq("P8 an odd circle " + p, y.ofPoint(p, 4), due[p]);
    Twincuts z = house(4);
    z.line(0, 3, 1);
    z.line(1, 2, 1);
    z.line(2, 3, 1);
    int[] first = {0, 1, 0, 1};
    eq("P10 two colours", z.net(10), 2);
    for (int p = 0; p < 4; p++) eq("P8 not the first free one " + p, z.ofPoint(p, 4), first[p]);
  }

  // ---- promises 11 to 13

  private static void pair() {
    Twincuts x = house(5);
    for (int k = 0; k < 4; k++) x.line(k, (k + 1) % 4, 1);
    eq("P11 pairs of a circle of four", x.net(7), 2);
    eq("P11 first smaller", x.pair(0, false), 0);
    eq("P11 first greater", x.pair(0, true), 2);
    eq("P11 second smaller", x.pair(1, false), 1);
    eq("P11 second greater", x.pair(1, true), 3);
    eq("P11 no third", x.pair(2, false), -1);
    eq("P11 far away", x.pair(Integer.MAX_VALUE, true), -1);
    refuses("P11 below", "IllegalArgumentException", () -> x.pair(-1, false));
    refuses("P11 far below", "IllegalArgumentException", () -> x.pair(Integer.MIN_VALUE, true));
    x.line(0, 4, 1);
    eq("P11 a cut point is of no pair", x.net(7), 1);
    eq("P11 the other pair", x.pair(0, true), 3);
    Twincuts y = house(4);
    y.line(0, 1, 1);
    y.line(2, 3, 1);
    eq("P11 none of two parts", y.net(7), 0);
  }

  private static void twin() {
    Twincuts x = house(5);
    for (int k = 0; k < 3; k++) x.line(k, (k + 1) % 3, 1);
    x.line(0, 3, 1);
    int[][] due = {{0, 1}, {0, 2}, {1, 2}};
    eq("P12 twins of a circle of three", x.net(8), 3);
    for (int k = 0; k < 3; k++) {
      eq("P12 smaller " + k, x.twin(k, false), due[k][0]);
      eq("P12 greater " + k, x.twin(k, true), due[k][1]);
    }
    eq("P12 no fourth, a bridge is none", x.twin(3, false), -1);
    eq("P12 far away", x.twin(Integer.MAX_VALUE, true), -1);
    refuses("P12 below", "IllegalArgumentException", () -> x.twin(-1, true));
    x.cut(1, true);
    eq("P12 none of bridges", x.net(8), 0);
    eq("P12 none", x.twin(0, true), -1);
  }

  private static void between() {
    Twincuts x = house(7);
    // two triangles that meet at 2, and a lonely pair
    x.line(0, 1, 1);
    x.line(1, 2, 1);
    x.line(2, 0, 1);
    x.line(2, 3, 1);
    x.line(3, 4, 1);
    x.line(4, 2, 1);
    x.line(5, 6, 1);
    between(x, 0, 4, 1, 2, 2, 4, 1, 5);
    between(x, 4, 0, 1, 2, 2, 4, 16, 48);
    between(x, 0, 1, 2, 2, 1, -1, 1, 5);
    between(x, 0, 5, 0, 0, -1, 0, 31, 0);
    between(x, 6, 5, 1, 1, 1, -1, 64, 64);
    between(x, 2, 0, 2, 2, 1, -1, 28, 6);
    x.line(5, 6, 1);
    between(x, 5, 6, 2, 2, 1, -1, 32, 192);
    x.cut(6, true);
    between(x, 5, 6, 1, 1, 1, -1, 32, 128);
    refuses("P13 one", "IndexOutOfBoundsException", () -> x.between(7, 0, 0));
    refuses("P13 other", "IndexOutOfBoundsException", () -> x.between(0, -1, 0));
    refuses("P13 no point before the same", "IndexOutOfBoundsException", () -> x.between(7, 7, 0));
    refuses("P13 no point before what", "IndexOutOfBoundsException", () -> x.between(0, 7, 6));
    refuses("P13 the same", "IllegalArgumentException", () -> x.between(3, 3, 0));
    refuses("P13 what", "IllegalArgumentException", () -> x.between(3, 2, 6));
    refuses("P13 what below", "IllegalArgumentException", () -> x.between(3, 2, -1));
  }

  private static void between(Twincuts x, int one, int other, int... due) {
    for (int what = 0; what <= 5; what++) {
      eq("P13 between " + one + " " + other + " " + what, x.between(one, other, what), due[what]);
    }
  }

  private static void gapIsTheSmallestNumber() {
    Twincuts x = path(5);
    eq("P13 gap 0 4", x.between(0, 4, 3), 2);
    eq("P13 gap 4 0", x.between(4, 0, 3), 2);
    Twincuts y = house(6);
    // 5 comes to 4 by 0 or by 1 and 2, of which one is enough
    y.line(5, 0, 1);
    y.line(0, 4, 1);
    y.line(5, 1, 1);
    y.line(1, 2, 1);
    y.line(2, 4, 1);
    eq("P13 gap of two", y.between(5, 4, 3), 3);
    eq("P13 linked", y.between(5, 1, 3), -1);
    eq("P13 apart", y.between(5, 3, 3), 0);
  }

  private static void sideHasTheFewestPoints() {
    Twincuts x = path(5);
    eq("P13 side", x.between(1, 3, 4), 3);
    eq("P13 its line", x.between(1, 3, 5), 2);
    eq("P13 side of the other", x.between(3, 1, 4), 24);
    eq("P13 its line", x.between(3, 1, 5), 4);
    eq("P13 of the first", x.between(0, 4, 4), 1);
    x.line(0, 1, 1);
    eq("P13 two points together", x.between(0, 4, 4), 3);
    eq("P13 the line behind", x.between(0, 4, 5), 2);
  }

  // ---- promises 14 to 19

  private static void trees() {
    Twincuts x = house(1);
    eq("P14 one point", x.trees(), 1);
    x.point();
    eq("P14 two parts", x.trees(), 0);
    for (int k = 1; k <= 16; k++) {
      x.line(0, 1, 1);
      eq("P14 like lines", x.trees(), k);
    }
    x.cut(4, true);
    eq("P14 a cut one", x.trees(), 15);
    Twincuts y = house(6);
    for (int one = 0; one < 6; one++) {
      for (int other = one + 1; other < 6; other++) y.line(one, other, 1);
    }
    eq("P14 all of six", y.trees(), 1296);
    Twincuts z = house(8);
    for (int k = 0; k < 16; k++) z.line(k % 8, (k + 1) % 8, 1);
    eq("P14 a double circle", z.trees(), 8 * 128);
  }

  private static void order() {
    Twincuts x = house(3);
    x.line(1, 2, 1);
    x.line(0, 1, 1);
    x.line(2, 1, 1);
    int[] due = {0, 1, 2};
    for (int place = 0; place < 3; place++) eq("P15 order", x.order(1, place), due[place]);
    x.cut(1, true);
    eq("P15 a cut one, too", x.order(1, 1), 1);
    x.turn(1, 1);
    eq("P15 turned", x.order(1, 1), 2);
    refuses("P15 no place", "IndexOutOfBoundsException", () -> x.order(1, 3));
    refuses("P15 place below", "IndexOutOfBoundsException", () -> x.order(1, -1));
    refuses("P15 no point", "IndexOutOfBoundsException", () -> x.order(3, 0));
    refuses("P15 point below", "IndexOutOfBoundsException", () -> x.order(-1, 0));
  }

  private static void row() {
    Twincuts x = house(8);
    same("P16 without lines", x.row(7), ".");
    x.line(7, 0, 1);
    x.line(3, 7, 1);
    x.line(7, 3, 1);
    same("P16 row", x.row(7), "-0-3-3");
    x.cut(1, true);
    same("P16 with a cut one", x.row(7), "-0x3-3");
    same("P16 at the other end", x.row(3), "x7-7");
    x.cut(0, true);
    same("P16 cut alone", x.row(0), "x7");
    refuses("P16 no point", "IndexOutOfBoundsException", () -> x.row(8));
    refuses("P16 below", "IndexOutOfBoundsException", () -> x.row(-1));
  }

  private static void without() {
    Twincuts x = path(5);
    eq("P17 nothing", x.without(0, 0), 1);
    eq("P17 a point", x.without(4, 0), 2);
    eq("P17 a line", x.without(0, 2), 2);
    eq("P17 both", x.without(1, 4), 2);
    eq("P17 all points", x.without(31, 0), 0);
    eq("P17 all lines", x.without(0, 15), 5);
    eq("P17 every other one", x.without(10, 0), 3);
    x.cut(0, true);
    eq("P17 a cut one stays cut", x.without(0, 1), 2);
    refuses("P17 no point", "IllegalArgumentException", () -> x.without(32, 0));
    refuses("P17 no line", "IllegalArgumentException", () -> x.without(0, 16));
    refuses("P17 below", "IllegalArgumentException", () -> x.without(-1, 0));
    refuses("P17 lines below", "IllegalArgumentException", () -> x.without(0, -1));
    refuses("P17 least", "IllegalArgumentException", () -> x.without(Integer.MIN_VALUE, 0));
    refuses("P17 least lines", "IllegalArgumentException", () -> x.without(0, Integer.MIN_VALUE));
    Twincuts y = new Twincuts();
    refuses("P17 no point at all", "IllegalArgumentException", () -> y.without(1, 0));
  }

  private static void wouldLink() {
    Twincuts x = house(4);
    x.line(0, 1, 1);
    x.line(1, 2, 1);
    eq("P18 another part", x.wouldLink(0, 3), 1);
    eq("P18 still two parts", x.wouldLink(0, 2), 0);
    x.line(2, 3, 1);
    eq("P18 a circle", x.wouldLink(3, 0), 4);
    eq("P18 a like line", x.wouldLink(0, 1), 2);
    eq("P18 nothing was changed", x.trees(), 1);
    for (int k = 3; k < 16; k++) x.line(0, 1, 1);
    eq("P18 with 16 lines, too", x.wouldLink(1, 0), 15);
    refuses("P18 one", "IndexOutOfBoundsException", () -> x.wouldLink(4, 0));
    refuses("P18 other", "IndexOutOfBoundsException", () -> x.wouldLink(0, -1));
    refuses("P18 no points before the same", "IndexOutOfBoundsException", () -> x.wouldLink(4, 4));
    refuses("P18 the same", "IllegalArgumentException", () -> x.wouldLink(2, 2));
  }

  private static void wouldTurn() {
    Twincuts x = house(3);
    eq("P19 without lines", x.wouldTurn(0), -1);
    x.line(0, 1, 1);
    eq("P19 one line", x.wouldTurn(0), -1);
    x.line(0, 1, 1);
    eq("P19 two lines", x.wouldTurn(0), -1);
    x.line(0, 1, 1);
    eq("P19 the first of several", x.wouldTurn(0), 0);
    eq("P19 nothing was changed", x.net(11), 2);
    same("P19 nor the order", x.row(0), "-1-1-1");
    x.turn(0, 1);
    eq("P19 most already", x.wouldTurn(0), -1);
    refuses("P19 no point", "IndexOutOfBoundsException", () -> x.wouldTurn(3));
    refuses("P19 below", "IndexOutOfBoundsException", () -> x.wouldTurn(-1));
    Twincuts y = house(2);
    for (int k = 0; k < 4; k++) y.line(0, 1, 1);
    y.turn(1, 0);
    y.turn(1, 2);
    // the orders are 0 1 2 3 and 1 0 3 2: to the contrary of each other but for where they begin
    eq("P19 four faces", y.net(11), 4);
    y.turn(0, 1);
    eq("P19 two faces", y.net(11), 2);
    eq("P19 back", y.wouldTurn(0), 1);
    eq("P19 or the same two lines at the other one", y.wouldTurn(1), 3);
  }

  // ---- promises 20 and 21, and what all have together

  private static void isSound() {
    Twincuts x = new Twincuts();
    eq("P20 new", x.isSound() ? 1 : 0, 1);
    for (int p = 0; p < 8; p++) {
      x.point();
      eq("P20 points", x.isSound() ? 1 : 0, 1);
    }
    for (int k = 0; k < 16; k++) {
      x.line(k % 8, (k * 3 + 1 + k / 8) % 8 == k % 8 ? (k + 4) % 8 : (k * 3 + 1 + k / 8) % 8, 1 + k);
      x.turn(k % 8, 0);
      eq("P20 lines", x.isSound() ? 1 : 0, 1);
    }
    for (int k = 0; k < 16; k += 3) {
      x.cut(k, true);
      eq("P20 cut", x.isSound() ? 1 : 0, 1);
    }
  }

  private static void digest() {
    eq("P21 new", new Twincuts().digest(), -2993967957462308379L);
    Twincuts x = house(2);
    x.line(0, 1, 3);
    long d = 7901;
    for (int what = 0; what <= 14; what++) d = d * 31 + x.net(what);
    for (int p = 0; p < 2; p++) {
      for (int what = 0; what <= 6; what++) d = d * 31 + x.ofPoint(p, what);
      d = d * 31 + x.wouldTurn(p);
      for (int what = 0; p == 0 && what <= 5; what++) d = d * 31 + x.between(0, 1, what);
    }
    for (int what = 0; what <= 8; what++) d = d * 31 + x.ofLine(0, what);
    d = d * 31 + x.trees();
    d = d * 31 + 1;
    eq("P21 one line", x.digest(), d);
    Twincuts y = house(5);
    for (int k = 0; k < 5; k++) y.line(k, (k + 1) % 5, 1);
    long before = y.digest();
    y.knock();
    eq("P21 a knock is in it", before == y.digest() ? 1 : 0, 0);
  }

  private static void wrongCallsChangeNothing() {
    Twincuts x = house(8);
    for (int k = 0; k < 16; k++) x.line(k % 8, (k + 1 + k / 8) % 8, 1 + k);
    x.cut(5, true);
    String before = shown(x);
    Runnable[] calls = {
      () -> x.point(), () -> x.line(0, 1, 1), () -> x.line(0, 8, 1), () -> x.line(1, 1, 1), () -> x.line(0, 1, 21),
      () -> x.cut(16, true), () -> x.cut(-1, true), () -> x.price(16, 1), () -> x.price(0, 21), () -> x.turn(0, 4),
      () -> x.turn(8, 0), () -> x.turn(0, -1), () -> x.ofPoint(8, 0), () -> x.ofLine(16, 0), () -> x.net(15), () -> x.pair(-1, true),
      () -> x.twin(-1, true), () -> x.between(0, 0, 0), () -> x.order(0, 4), () -> x.row(8),
      () -> x.without(256, 0), () -> x.without(0, 65536), () -> x.wouldLink(0, 0), () -> x.wouldTurn(8)};
    for (int k = 0; k < calls.length; k++) {
      String name = "a wrong call " + k;
      Runnable call = calls[k];
      boolean hasThrown = false;
      try {
        call.run();
      } catch (RuntimeException e) {
        hasThrown = true;
      }
      eq(name + " throws", hasThrown ? 1 : 0, 1);
      same(name + " changes nothing", shown(x), before);
    }
  }

  private static void questionsChangeNothing() {
    Twincuts x = house(8);
    for (int k = 0; k < 14; k++) x.line(k % 8, (k + 1 + k / 8) % 8, 1 + k);
    x.cut(2, true);
    x.turn(3, 1);
    String before = shown(x);
    x.without(3, 9);
    x.wouldLink(0, 5);
    for (int p = 0; p < 8; p++) x.wouldTurn(p);
    x.isSound();
    x.digest();
    same("questions change nothing", shown(x), before);
  }

  // ---- how it is done

  private static Twincuts house(int points) {
    Twincuts x = new Twincuts();
    for (int k = 0; k < points; k++) x.point();
    return x;
  }

  private static Twincuts path(int points) {
    Twincuts x = house(points);
    for (int k = 0; k + 1 < points; k++) x.line(k, k + 1, 1);
    return x;
  }

  private static String shown(Twincuts x) {
    StringBuilder s = new StringBuilder();
    for (int p = 0; p < x.net(0); p++) {
      s.append(x.row(p)).append(' ');
      for (int place = 0; place < x.ofPoint(p, 6); place++) s.append(x.order(p, place)).append(' ');
    }
    return s.append(x.digest()).toString();
  }

  private static void eq(String name, long got, long due) {
    same(name, "" + got, "" + due);
  }

  private static void same(String name, String got, String due) {
    checks++;
    if (!got.equals(due)) {
      wrong++;
      System.out.println(name + ": answered " + got + ", due is " + due);
    }
  }

  private static void refuses(String name, String due, Runnable call) {
    String got = "nothing";
    try {
      call.run();
    } catch (RuntimeException e) {
      got = e.getClass().getSimpleName();
    }
    same(name + " throws", got, due);
  }
}
