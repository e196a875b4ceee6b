import java.math.BigInteger;
import java.util.ArrayList;
import java.util.List;

/**
 * Each sentence of the document that names a boundary case, in its order: too small, too large, empty,
 * full, a wrap-around. A fault is told with the sentence. Wrong calls have a test beside this one.
 */
public final class Boundaries {
  private static final int NONE = -1;
  private static final String INDEX = "java.lang.IndexOutOfBoundsException";
  private static final String ARGUMENT = "java.lang.IllegalArgumentException";
  private static final String STATE = "java.lang.IllegalStateException";
  private static int sentences = 0;
  private static int checks = 0;
  private static int wrong = 0;
  private static String sentence = "";

  public static void main(String[] args) {
    theFace();
    sets();
    pointsAndLines();
    partsAndDistances();
    bridges();
    cutPoints();
    blocks();
    blockNumbers();
    pairs();
    twins();
    ways();
    gaps();
    sides();
    trees();
    cheapestTree();
    colours();
    orders();
    walks();
    faceNumbers();
    handles();
    door();
    newObject();
    point();
    line();
    cut();
    price();
    turn();
    knock();
    ofPoint();
    ofLine();
    net();
    pairAndTwin();
    between();
    treesOfPromise14();
    orderAndRow();
    without();
    wouldLink();
    wouldTurn();
    isSound();
    digest();
    System.out.println(checks + " checks of " + sentences + " sentences on boundaries, " + wrong + " were wrong");
    if (wrong != 0) System.exit(1);
  }

  // ---- the face, and what the words mean

  private static void theFace() {
    says("An object is used for at most 512 calls after it has been made");
    Twincuts x = new Twincuts();
    for (int k = 1; k <= 511; k++) x.knock();
    is(x.net(14), 511);
    Twincuts y = fullHouse();
    Twincuts plain = fullHouse();
    for (int k = 0; k < 243; k++) {
      y.cut(k % 16, true);
      y.cut(k % 16, false);
    }
    y.knock();
    plain.knock();
    is(y.digest(), plain.digest());
    Twincuts z = new Twincuts();
    for (int k = 0; k < 8; k++) z.point();
    for (int k = 8; k < 511; k++) refuses(STATE, z::point);
    is(z.net(0), 8);
  }

  private static void sets() {
    says("NONE is -1");
    Twincuts none = house(2);
    is(none.between(0, 1, 2), -1);
    is(none.wouldTurn(0), -1);
    is(none.net(9), -1);

    says("A set is the sum of 2^k for each number k: the empty one");
    is(none.ofPoint(1, 5), 0);
    is(none.between(0, 1, 3), 0);
    is(none.between(0, 1, 5), 0);

    says("A set is the sum of 2^k for each number k: the greatest ones");
    Twincuts first = house(8);
    for (int p = 1; p < 8; p++) first.line(0, p, 1);
    is(first.ofPoint(0, 5), 254);
    is(first.ofPoint(7, 5), 1);
    Twincuts last = house(8);
    for (int p = 0; p < 7; p++) last.line(7, p, 1);
    is(last.ofPoint(7, 5), 127);
    is(last.ofPoint(0, 5), 128);
    Twincuts like = likeLines(16);
    is(like.between(0, 1, 5), 65535);
    for (int l = 0; l < 15; l++) like.cut(l, true);
    is(like.between(0, 1, 5), 32768);
    like.cut(15, true);
    is(like.between(0, 1, 5), 0);
  }

  // ---- 1. Points, lines, parts

  private static void pointsAndLines() {
    says("POINTS: at most 8, numbered from 0");
    Twincuts x = new Twincuts();
    for (int p = 0; p < 8; p++) {
      refuses(INDEX, () -> x.row(x.net(0)));
      is(x.point(), p);
      same(x.row(p), ".");
    }
    refuses(STATE, x::point);
    is(x.net(0), 8);
    refuses(INDEX, () -> x.row(8));

    says("LINES: at most 16, numbered from 0");
    for (int l = 0; l < 16; l++) {
      refuses(INDEX, () -> x.ofLine(x.net(1), 0));
      is(x.line(l % 7, 7, 1), l);
      is(x.ofLine(l, 0), l % 7);
    }
    refuses(STATE, () -> x.line(0, 7, 1));
    is(x.net(1), 16);
    refuses(INDEX, () -> x.ofLine(16, 0));

    says("LINES: at most 16: CUT ones are LINES, too");
    for (int l = 0; l < 16; l++) x.cut(l, true);
    refuses(STATE, () -> x.line(0, 7, 1));
    is(x.net(1), 16);
    is(x.net(2), 0);

    says("each of two POINTS that are not the same");
    Twincuts y = house(8);
    for (int p = 0; p < 8; p++) {
      int same = p;
      refuses(ARGUMENT, () -> y.line(same, same, 1));
    }
    is(y.net(1), 0);

    says("there may be several of the same two");
    Twincuts z = house(2);
    for (int l = 0; l < 16; l++) is(l % 2 == 0 ? z.line(0, 1, 1) : z.line(1, 0, 1), l);
    for (int l = 0; l < 16; l++) is(z.ofLine(l, 0) * 10 + z.ofLine(l, 1), 1);

    says("with a COST (1 to 20)");
    Twincuts w = house(2);
    refuses(ARGUMENT, () -> w.line(0, 1, 0));
    refuses(ARGUMENT, () -> w.line(0, 1, 21));
    for (int cost = 1; cost <= 16; cost++) w.line(0, 1, cost + 4 * (cost / 16));
    is(w.ofLine(0, 2), 1);
    is(w.ofLine(15, 2), 20);

    says("it STANDS (at first), or is CUT");
    is(w.ofLine(15, 3), 1);
    is(w.net(2), 16);
    w.cut(15, true);
    is(w.ofLine(15, 3), 0);
    is(w.net(2), 15);
  }

  private static void partsAndDistances() {
    says("Two POINTS are LINKED, if a LINE that STANDS is of both");
    Twincuts x = likeLines(2);
    is(x.ofPoint(0, 5), 2);
    x.cut(0, true);
    is(x.ofPoint(0, 5), 2);
    is(x.between(1, 0, 3), NONE);
    x.cut(1, true);
    is(x.ofPoint(0, 5), 0);
    is(x.between(1, 0, 3), 0);

    says("PARTS are numbered from 0 by the smallest POINT of each: as many as POINTS, and just one");
    Twincuts y = house(8);
    for (int p = 0; p < 8; p++) is(y.ofPoint(p, 0), p);
    is(y.net(3), 8);
    for (int p = 7; p > 0; p--) y.line(p, p - 1, 1);
    for (int p = 0; p < 8; p++) is(y.ofPoint(p, 0), 0);
    is(y.net(3), 1);
    y.cut(6, true);
    is(y.ofPoint(0, 0), 0);
    for (int p = 1; p < 8; p++) is(y.ofPoint(p, 0), 1);

    says("PARTS are numbered from 0 by the smallest POINT of each: they are mixed");
    Twincuts z = house(6);
    z.line(5, 1, 1);
    z.line(4, 0, 1);
    int[] due = {0, 1, 2, 3, 0, 1};
    for (int p = 0; p < 6; p++) is(z.ofPoint(p, 0), due[p]);

    says("DISTANCE of two POINTS: the fewest LINES that STAND: from one to the greatest, seven");
    Twincuts path = path(8);
    for (int p = 1; p < 8; p++) is(path.between(0, p, 2), p);
    for (int p = 0; p < 7; p++) is(path.between(7, p, 2), 7 - p);
    Twincuts ring = ring(8);
    is(ring.between(0, 4, 2), 4);
    is(ring.between(0, 7, 2), 1);
    ring.cut(7, true);
    is(ring.between(0, 7, 2), 7);

    says("DISTANCE .. (NONE, if one can not)");
    ring.cut(3, true);
    is(ring.between(0, 7, 2), NONE);
    is(ring.between(7, 0, 2), NONE);
    is(ring.between(0, 3, 2), 3);
  }

  // ---- 2. What falls apart by one, and by two

  private static void bridges() {
    says("A BRIDGE is a LINE that STANDS without which there would be a PART more: all, none");
    Twincuts path = path(8);
    for (int l = 0; l < 7; l++) is(path.ofLine(l, 4), 1);
    is(path.net(4), 7);
    Twincuts ring = ring(8);
    for (int l = 0; l < 8; l++) is(ring.ofLine(l, 4), 0);
    is(ring.net(4), 0);

    says("A BRIDGE is a LINE that STANDS: a CUT one is none, and makes others to BRIDGES");
    ring.cut(4, true);
    for (int l = 0; l < 8; l++) is(ring.ofLine(l, 4), l == 4 ? 0 : 1);
    is(ring.net(4), 7);

    says("A BRIDGE .. without which there would be a PART more: of several of the same two there is none");
    Twincuts like = likeLines(2);
    is(like.net(4), 0);
    like.cut(0, true);
    is(like.ofLine(0, 4), 0);
    is(like.ofLine(1, 4), 1);
  }

  private static void cutPoints() {
    says("A CUT POINT .. the other POINTS of its PART would be in two PARTS or more: too few others");
    Twincuts x = house(4);
    is(x.net(5), 0);
    x.line(0, 1, 1);
    is(x.net(5), 0);

    says("A CUT POINT .. in two PARTS: just two others");
    x.line(1, 2, 1);
    is(x.net(5), 1);
    for (int p = 0; p < 4; p++) is(x.ofPoint(p, 2), p == 1 ? 1 : 0);
    x.line(0, 2, 1);
    is(x.net(5), 0);

    says("A CUT POINT .. in two PARTS or more: seven");
    Twincuts star = house(8);
    for (int p = 0; p < 7; p++) star.line(7, p, 1);
    for (int p = 0; p < 8; p++) is(star.ofPoint(p, 2), p == 7 ? 1 : 0);
    is(star.net(5), 1);
    Twincuts first = house(8);
    for (int p = 1; p < 8; p++) first.line(0, p, 1);
    for (int p = 0; p < 8; p++) is(first.ofPoint(p, 2), p == 0 ? 1 : 0);

    says("A CUT POINT .. the other POINTS of its PART: those of others do not count");
    Twincuts parts = path(4);
    parts.cut(1, true);
    is(parts.net(5), 0);

    says("A CUT POINT .. the most there can be, and none in a circle");
    Twincuts path = path(8);
    is(path.net(5), 6);
    is(path.ofPoint(0, 2), 0);
    is(path.ofPoint(7, 2), 0);
    is(ring(8).net(5), 0);
  }

  private static void blocks() {
    says("Two LINES that STAND are of one BLOCK, if they are the same: each alone");
    Twincuts path = path(8);
    is(path.net(6), 7);
    for (int l = 0; l < 7; l++) is(path.ofLine(l, 5), l);

    says("a circle (.. that comes to no POINT twice, and goes by no LINE twice) by both: the least one");
    Twincuts like = likeLines(2);
    is(like.net(6), 1);
    is(like.ofLine(1, 5), 0);
    like.cut(0, true);
    is(like.net(6), 1);
    is(like.ofLine(1, 5), 0);
    is(like.ofLine(0, 5), NONE);

    says("a circle .. by both: the greatest one, and all LINES of the same two");
    Twincuts ring = ring(8);
    is(ring.net(6), 1);
    for (int l = 0; l < 8; l++) is(ring.ofLine(l, 5), 0);
    Twincuts full = likeLines(16);
    is(full.net(6), 1);
    is(full.ofLine(15, 5), 0);

    says("a circle .. that comes to no POINT twice: two of them at one POINT are two BLOCKS");
    Twincuts two = house(3);
    two.line(0, 1, 1);
    two.line(1, 2, 1);
    two.line(1, 0, 1);
    two.line(2, 1, 1);
    int[] due = {0, 1, 0, 1};
    for (int l = 0; l < 4; l++) is(two.ofLine(l, 5), due[l]);
    is(two.ofPoint(1, 3), 2);
    two.line(0, 2, 1);
    for (int l = 0; l < 5; l++) is(two.ofLine(l, 5), 0);

    says("BLOCKS: no LINE that STANDS, no BLOCK");
    is(house(8).net(6), 0);
    Twincuts cut = path(2);
    cut.cut(0, true);
    is(cut.net(6), 0);
    is(cut.ofLine(0, 5), NONE);
    is(cut.ofPoint(0, 3), 0);
  }

  private static void blockNumbers() {
    says("BLOCKS are numbered from 0 by the smallest LINE of each");
    Twincuts x = house(5);
    int[][] lines = {{2, 3}, {0, 1}, {3, 4}, {1, 2}, {4, 2}, {2, 0}};
    for (int[] l : lines) x.line(l[0], l[1], 1);
    int[] due = {0, 1, 0, 1, 0, 1};
    for (int l = 0; l < 6; l++) is(x.ofLine(l, 5), due[l]);
    x.cut(0, true);
    int[] then = {NONE, 0, 1, 0, 2, 0};
    for (int l = 0; l < 6; l++) is(x.ofLine(l, 5), then[l]);
    is(x.net(6), 3);
    x.cut(1, true);
    int[] last = {NONE, NONE, 0, 1, 2, 3};
    for (int l = 0; l < 6; l++) is(x.ofLine(l, 5), last[l]);
  }

  private static void pairs() {
    says("A PAIR: two POINTS of one PART .. the other POINTS .. in two PARTS: too few others");
    is(likeLines(2).net(7), 0);
    is(ring(3).net(7), 0);
    is(path(3).net(7), 0);

    says("A PAIR .. the other POINTS .. in two PARTS: just two others");
    pairsAre(ring(4), 0, 2, 1, 3);

    says("A PAIR .. the other POINTS .. in two PARTS: it may be of two numbers that follow each other");
    Twincuts mixed = house(4);
    int[][] lines = {{0, 2}, {2, 1}, {1, 3}, {3, 0}};
    for (int[] l : lines) mixed.line(l[0], l[1], 1);
    pairsAre(mixed, 0, 1, 2, 3);

    says("A PAIR .. in two PARTS or more: six");
    Twincuts hubs = hubs();
    pairsAre(hubs, 0, 7);
    is(hubs.without(129, 0), 6);

    says("A PAIR .. without just one of both, whichever that is, they (with the other one) are in one");
    is(path(4).net(7), 0);
    is(path(8).net(7), 0);
    Twincuts tail = ring(4);
    tail.point();
    tail.line(1, 4, 1);
    pairsAre(tail, 0, 2);

    says("A PAIR: two POINTS of one PART: they may be LINKED");
    Twincuts linked = ring(4);
    linked.line(2, 0, 1);
    pairsAre(linked, 0, 2);

    says("A PAIR: two POINTS of one PART: none of two, and each for itself");
    Twincuts parts = house(8);
    for (int k = 0; k < 4; k++) {
      parts.line(2 * k, (2 * k + 2) % 8, 1);
      parts.line(2 * k + 1, (2 * k + 3) % 8, 1);
    }
    pairsAre(parts, 0, 4, 1, 5, 2, 6, 3, 7);

    says("PAIRS are numbered from 0, by their smaller POINT, then by the greater one: a circle of all POINTS");
    Twincuts ring = ring(8);
    List<Integer> due = new ArrayList<>();
    for (int p = 0; p < 8; p++) {
      for (int q = p + 2; q < (p == 0 ? 7 : 8); q++) {
        due.add(p);
        due.add(q);
      }
    }
    is(ring.net(7), 20);
    pairsAre(ring, due.stream().mapToInt(v -> v).toArray());
  }

  private static void twins() {
    says("TWINS: two LINES that STAND .. without which there would be a PART more: just two of the same two");
    Twincuts x = likeLines(2);
    twinsAre(x, 0, 1);
    x.line(0, 1, 1);
    twinsAre(x);

    says("TWINS: two LINES that STAND");
    x.cut(1, true);
    twinsAre(x, 0, 2);
    x.cut(0, true);
    twinsAre(x);

    says("TWINS .. none of both a BRIDGE");
    twinsAre(path(8));
    Twincuts tail = ring(3);
    tail.point();
    tail.line(3, 1, 1);
    twinsAre(tail, 0, 1, 0, 2, 1, 2);

    says("TWINS .. without which there would be a PART more: not by one of each of two circles");
    Twincuts two = house(4);
    int[][] lines = {{0, 1}, {2, 3}, {1, 0}, {3, 2}};
    for (int[] l : lines) two.line(l[0], l[1], 1);
    twinsAre(two, 0, 2, 1, 3);
    two.line(1, 2, 1);
    twinsAre(two, 0, 2, 1, 3);

    says("they are numbered likewise: a circle of all POINTS");
    List<Integer> due = new ArrayList<>();
    for (int l = 0; l < 8; l++) {
      for (int k = l + 1; k < 8; k++) {
        due.add(l);
        due.add(k);
      }
    }
    Twincuts ring = ring(8);
    is(ring.net(8), 28);
    twinsAre(ring, due.stream().mapToInt(v -> v).toArray());
  }

  // ---- 3. Ways and what parts

  private static void ways() {
    says("WAYS are as many .. as can be at once: none");
    Twincuts x = house(2);
    is(x.between(0, 1, 0), 0);
    is(x.between(0, 1, 1), 0);

    says("WAYS are as many .. as can be at once: one LINE each, up to all 16");
    for (int l = 1; l <= 16; l++) {
      x.line(0, 1, 1);
      is(x.between(0, 1, 0), l);
      is(x.between(1, 0, 1), l);
    }

    says("WAYS .. by LINES that STAND");
    for (int l = 0; l < 16; l++) {
      x.cut(l, true);
      is(x.between(0, 1, 0), 15 - l);
      is(x.between(0, 1, 1), 15 - l);
    }

    says("no two have a LINE together, nor a POINT but a and b: by all other POINTS");
    Twincuts hubs = hubs();
    is(hubs.between(0, 7, 0), 6);
    is(hubs.between(0, 7, 1), 6);
    is(hubs.between(1, 6, 0), 2);

    says("LINE WAYS likewise, where no two have a LINE together (POINTS may be)");
    Twincuts twice = house(8);
    for (int l = 0; l < 14; l++) twice.line(l / 2, l / 2 + 1, 1);
    is(twice.between(0, 7, 0), 1);
    is(twice.between(0, 7, 1), 2);
    is(twice.between(3, 4, 0), 2);
  }

  private static void gaps() {
    says("If a and b are not LINKED, the GAP is the set of the fewest other POINTS: none");
    Twincuts x = house(3);
    is(x.between(0, 2, 3), 0);

    says("the GAP .. of the fewest other POINTS: all others, the most there can be");
    is(hubs().between(0, 7, 3), 126);
    is(hubs().between(7, 0, 3), 126);

    says("the GAP .. (of several that with the smallest number)");
    Twincuts path = path(8);
    is(path.between(0, 7, 3), 2);
    is(path.between(7, 0, 3), 2);
    is(path.between(7, 5, 3), 64);
    is(ring(8).between(2, 6, 3), 9);
    is(ring(8).between(0, 2, 3), 10);

    says("If a and b are not LINKED: a CUT LINE does not LINK, another one does");
    Twincuts ring = ring(4);
    is(ring.between(0, 1, 3), NONE);
    ring.cut(0, true);
    is(ring.between(0, 1, 3), 4);
    ring.line(1, 0, 1);
    is(ring.between(0, 1, 3), NONE);
  }

  private static void sides() {
    says("SIDE: .. sets of POINTS with a and without b: a alone");
    Twincuts x = house(8);
    is(x.between(5, 3, 4), 32);
    Twincuts hubs = hubs();
    is(hubs.between(1, 0, 4), 2);
    is(hubs.between(1, 0, 5), 3);

    says("SIDE: .. sets of POINTS with a and without b: all but b");
    Twincuts tail = house(8);
    for (int p = 0; p < 6; p++) {
      tail.line(p, p + 1, 1);
      tail.line(p, p + 1, 1);
    }
    tail.line(7, 6, 1);
    is(tail.between(0, 7, 4), 127);
    is(tail.between(0, 7, 5), 4096);
    is(tail.between(7, 0, 4), 128);

    says("SIDE: .. out of which the fewest LINES that STAND go: none");
    tail.cut(12, true);
    is(tail.between(0, 7, 4), 127);
    is(tail.between(0, 7, 5), 0);
    is(tail.between(7, 3, 4), 128);
    is(tail.between(7, 3, 5), 0);

    says("SIDE: .. that with the fewest POINTS (there is just one)");
    Twincuts path = path(8);
    for (int p = 0; p < 7; p++) is(path.between(p, 7, 4), (2 << p) - 1);
    is(path.between(7, 0, 4), 128);
    Twincuts ring = ring(8);
    is(ring.between(3, 7, 4), 8);
    is(ring.between(3, 7, 5), 12);

    says("its LINES are those that STAND and go out of it");
    Twincuts like = likeLines(16);
    is(like.between(0, 1, 5), 65535);
    like.cut(3, true);
    is(like.between(0, 1, 5), 65527);
  }

  // ---- 4. Trees and colours

  private static void trees() {
    says("TREES .. (0, if there is no POINT)");
    is(new Twincuts().trees(), 0);

    says("TREES .. (1 with just one POINT)");
    is(house(1).trees(), 1);

    says("by which all POINTS are one PART");
    is(house(2).trees(), 0);
    is(house(8).trees(), 0);
    Twincuts path = path(8);
    is(path.trees(), 1);
    path.cut(6, true);
    is(path.trees(), 0);
    path.cut(6, false);
    path.cut(0, true);
    is(path.trees(), 0);

    says("of which none can be left out");
    is(ring(8).trees(), 8);
    is(likeLines(16).trees(), 16);
    is(fourByFour().trees(), 4096);
  }

  private static void cheapestTree() {
    says("without a TREE there is none: its COST is NONE, no LINE is in it: no POINT, and two PARTS");
    is(new Twincuts().net(9), NONE);
    Twincuts x = ring(3);
    is(x.net(9), 2);
    x.point();
    is(x.net(9), NONE);
    for (int l = 0; l < 3; l++) is(x.ofLine(l, 6), 0);

    says("The CHEAPEST TREE of just one POINT has no LINE");
    is(house(1).net(9), 0);

    says("by COST: from the least one to the greatest one");
    Twincuts dear = house(8);
    for (int p = 0; p < 7; p++) dear.line(p, p + 1, 20);
    is(dear.net(9), 140);
    dear.line(0, 1, 19);
    is(dear.net(9), 139);
    is(dear.ofLine(0, 6), 0);
    is(dear.ofLine(7, 6), 1);
    dear.price(7, 20);
    is(dear.ofLine(0, 6), 1);
    is(dear.ofLine(7, 6), 0);
    dear.price(7, 1);
    is(dear.net(9), 121);

    says("if its POINTS are not in one PART yet by those that were taken");
    Twincuts late = path(6);
    late.price(2, 20);
    is(late.net(9), 24);
    late.line(5, 0, 19);
    is(late.net(9), 23);
    is(late.ofLine(2, 6), 0);
    is(late.ofLine(5, 6), 1);
    late.line(0, 2, 2);
    is(late.ofLine(6, 6), 0);

    says("of the same COST by number");
    Twincuts like = likeLines(16);
    for (int l = 0; l < 16; l++) is(like.ofLine(l, 6), l == 0 ? 1 : 0);
    like.cut(0, true);
    for (int l = 0; l < 16; l++) is(like.ofLine(l, 6), l == 1 ? 1 : 0);

    says("LINE by LINE that STANDS");
    for (int l = 1; l < 16; l++) like.cut(l, true);
    is(like.net(9), NONE);
    for (int l = 0; l < 16; l++) is(like.ofLine(l, 6), 0);
  }

  private static void colours() {
    says("COLOURS: the fewest numbers that are needed: none without POINTS, one without LINES that STAND");
    is(new Twincuts().net(10), 0);
    Twincuts x = house(8);
    is(x.net(10), 1);
    for (int p = 0; p < 8; p++) is(x.ofPoint(p, 4), 0);
    x.line(6, 7, 1);
    is(x.net(10), 2);
    is(x.ofPoint(6, 4), 0);
    is(x.ofPoint(7, 4), 1);
    x.cut(0, true);
    is(x.net(10), 1);
    is(x.ofPoint(7, 4), 0);

    says("COLOURS: the most that 16 LINES can need");
    Twincuts all = house(8);
    for (int p = 2; p < 8; p++) {
      for (int q = 2; q < p; q++) all.line(p, q, 1);
    }
    is(all.net(10), 6);
    int[] due = {0, 0, 0, 1, 2, 3, 4, 5};
    for (int p = 0; p < 8; p++) is(all.ofPoint(p, 4), due[p]);
    all.cut(14, true);
    is(all.net(10), 5);

    says("LINKED ones have unlike ones: a CUT LINE does not count, one of two that STANDS does");
    Twincuts two = likeLines(2);
    two.cut(1, true);
    is(two.net(10), 2);
    two.cut(0, true);
    is(two.net(10), 1);

    says("with the smallest number at the first POINT where two such COLOURINGS differ");
    Twincuts late = house(4);
    late.line(0, 3, 1);
    late.line(1, 2, 1);
    late.line(2, 3, 1);
    int[] first = {0, 1, 0, 1};
    for (int p = 0; p < 4; p++) is(late.ofPoint(p, 4), first[p]);
    int[] odd = {0, 1, 0, 1, 0, 1, 2};
    for (int p = 0; p < 7; p++) is(ring(7).ofPoint(p, 4), odd[p]);
  }

  // ---- 5. A drawing

  private static void orders() {
    says("Each POINT has an ORDER: its LINES (CUT ones, too): empty");
    Twincuts x = house(3);
    is(x.ofPoint(0, 6), 0);
    same(x.row(0), ".");
    refuses(INDEX, () -> x.order(0, 0));

    says("Each POINT has an ORDER: its LINES: all 16");
    for (int l = 0; l < 16; l++) x.line(1, 2 - 2 * (l % 2), 1);
    is(x.ofPoint(1, 6), 16);
    is(x.ofPoint(0, 6), 8);
    for (int l = 0; l < 16; l++) is(x.order(1, l), l);
    for (int l = 0; l < 8; l++) is(x.order(0, l), 2 * l + 1);
    refuses(INDEX, () -> x.order(1, 16));
    refuses(INDEX, () -> x.order(0, 8));

    says("Each POINT has an ORDER: its LINES (CUT ones, too)");
    for (int l = 0; l < 16; l++) x.cut(l, true);
    is(x.ofPoint(1, 6), 16);
    is(x.order(1, 15), 15);

    says("the first ones told first; a new LINE comes to the end of both");
    Twincuts y = house(3);
    y.line(0, 1, 1);
    y.line(2, 0, 1);
    y.turn(0, 0);
    y.line(1, 0, 1);
    same(y.row(0), "-2-1-1");
    is(y.order(0, 2), 2);
    same(y.row(1), "-0-0");
    is(y.order(1, 1), 2);

    says("TURNING .. (the last one and the first one are, too)");
    y.turn(0, 2);
    is(y.order(0, 0), 2);
    is(y.order(0, 1), 0);
    is(y.order(0, 2), 1);
  }

  private static void walks() {
    says("(.. it can be that LINE itself)");
    Twincuts x = path(2);
    is(x.net(11), 1);
    is(x.ofLine(0, 7), 0);
    is(x.ofLine(0, 8), 0);
    is(path(8).net(11), 1);

    says("the next LINE of its ORDER that STANDS");
    Twincuts y = house(2);
    for (int l = 0; l < 3; l++) y.line(0, 1, 1);
    is(y.net(11), 1);
    y.cut(1, true);
    is(y.net(11), 2);
    y.cut(2, true);
    is(y.net(11), 1);

    says("(behind the last one comes the first one ..)");
    Twincuts triangle = ring(3);
    is(triangle.net(11), 2);
    int[] fromSmaller = {0, 0, 1};
    for (int l = 0; l < 3; l++) is(triangle.ofLine(l, 7), fromSmaller[l]);
    for (int l = 0; l < 3; l++) is(triangle.ofLine(l, 8), 1 - fromSmaller[l]);

    says("each POINT without LINES that STAND has a FACE of its own (counted, without a number)");
    is(new Twincuts().net(11), 0);
    is(house(1).net(11), 1);
    is(house(8).net(11), 8);
    Twincuts cut = path(8);
    for (int l = 0; l < 7; l++) cut.cut(l, true);
    is(cut.net(11), 8);
    Twincuts lonely = house(8);
    lonely.line(6, 7, 1);
    is(lonely.net(11), 7);
    is(lonely.ofLine(0, 7), 0);
    is(lonely.ofLine(0, 8), 0);
  }

  private static void faceNumbers() {
    says("FACES are numbered from 0: LINE by LINE, first from its smaller POINT, then from the greater one");
    Twincuts x = likeLines(2);
    is(x.ofLine(0, 7), 0);
    is(x.ofLine(0, 8), 1);
    is(x.ofLine(1, 7), 1);
    is(x.ofLine(1, 8), 0);

    says("FACES .. each walk that was not met ahead: the most that can have a number, and the most there can be");
    Twincuts flat = house(2);
    for (int l = 0; l < 16; l++) {
      flat.line(0, 1, 1);
      for (int place = l - 1; place >= 0; place--) flat.turn(1, place);
    }
    is(flat.order(1, 0), 15);
    is(flat.net(11), 16);
    for (int p = 2; p < 8; p++) flat.point();
    is(flat.net(11), 22);
    is(flat.net(12), 0);
    is(flat.ofLine(0, 7), 0);
    is(flat.ofLine(0, 8), 1);
    is(flat.ofLine(15, 7), 15);
    is(flat.ofLine(15, 8), 0);
    for (int l = 1; l < 15; l++) is(flat.ofLine(l, 7) * 100 + flat.ofLine(l, 8), l * 100 + l + 1);

    says("Each LINE that STANDS is walked: a CUT one has no FACE, and no number is left out");
    flat.cut(0, true);
    is(flat.ofLine(0, 7), NONE);
    is(flat.ofLine(0, 8), NONE);
    is(flat.ofLine(1, 7), 0);
    is(flat.ofLine(1, 8), 1);
    is(flat.net(11), 21);
  }

  private static void handles() {
    says("HANDLES: (2 * PARTS - POINTS + LINES that STAND - all FACES) / 2: none");
    is(new Twincuts().net(12), 0);
    is(house(1).net(12), 0);
    is(house(8).net(12), 0);
    is(path(8).net(12), 0);
    is(ring(8).net(12), 0);

    says("HANDLES: the most that 16 LINES can have");
    is(likeLines(16).net(11), 2);
    is(likeLines(16).net(12), 7);
    is(likeLines(15).net(11), 1);
    is(likeLines(15).net(12), 7);

    says("HANDLES: of several PARTS, and of POINTS without LINES that STAND");
    Twincuts two = house(6);
    for (int l = 0; l < 6; l++) two.line(l % 2 * 2, l % 2 * 2 + 1, 1);
    is(two.net(11), 4);
    is(two.net(12), 2);
    two.cut(0, true);
    is(two.net(12), 1);
  }

  private static void door() {
    says("who knocks is REFUSED (counted): nobody at first, and none that a method refuses");
    Twincuts x = new Twincuts();
    is(x.net(14), 0);
    refuses(INDEX, () -> x.cut(0, true));
    refuses(ARGUMENT, () -> x.net(15));
    is(x.net(14), 0);
    is(x.knock(), 1);
    is(x.net(14), 1);
  }

  // ---- promises 1 to 7

  private static void newObject() {
    says("Promise 1: Creates a network without POINTS");
    Twincuts x = new Twincuts();
    for (int what = 0; what <= 14; what++) is(x.net(what), what == 9 ? NONE : 0);
    is(x.trees(), 0);
    is(x.pair(0, false), NONE);
    is(x.twin(0, false), NONE);
    is(x.without(0, 0), 0);
    is(x.isSound() ? 1 : 0, 1);
    refuses(INDEX, () -> x.ofPoint(0, 0));
    refuses(INDEX, () -> x.ofLine(0, 0));
    refuses(INDEX, () -> x.order(0, 0));
    refuses(INDEX, () -> x.row(0));
    refuses(INDEX, () -> x.turn(0, 0));
    refuses(INDEX, () -> x.cut(0, true));
    refuses(INDEX, () -> x.price(0, 1));
    refuses(INDEX, () -> x.line(0, 1, 1));
    refuses(INDEX, () -> x.between(0, 1, 0));
    refuses(INDEX, () -> x.wouldLink(0, 1));
    refuses(INDEX, () -> x.wouldTurn(0));
    refuses(ARGUMENT, () -> x.without(1, 0));
    refuses(ARGUMENT, () -> x.without(0, 1));
  }

  private static void point() {
    says("Promise 2: Throws IllegalStateException if there are 8");
    Twincuts x = house(7);
    is(x.point(), 7);
    refuses(STATE, x::point);
    is(x.net(0), 8);
    is(x.net(3), 8);
  }

  private static void line() {
    says("Promise 3: if there is no such POINT, of both");
    Twincuts x = house(2);
    refuses(INDEX, () -> x.line(-1, 0, 1));
    refuses(INDEX, () -> x.line(0, -1, 1));
    refuses(INDEX, () -> x.line(2, 0, 1));
    refuses(INDEX, () -> x.line(0, 2, 1));
    refuses(INDEX, () -> x.line(Integer.MAX_VALUE, 0, 1));
    refuses(INDEX, () -> x.line(0, Integer.MIN_VALUE, 1));
    is(x.line(0, 1, 1), 0);

    says("Promise 3: if both are the same");
    refuses(ARGUMENT, () -> x.line(0, 0, 1));
    refuses(ARGUMENT, () -> x.line(1, 1, 1));

    says("Promise 3: or cost is not 1 to 20");
    refuses(ARGUMENT, () -> x.line(0, 1, 0));
    refuses(ARGUMENT, () -> x.line(0, 1, 21));
    refuses(ARGUMENT, () -> x.line(0, 1, -1));
    refuses(ARGUMENT, () -> x.line(0, 1, Integer.MIN_VALUE));
    refuses(ARGUMENT, () -> x.line(0, 1, Integer.MAX_VALUE));
    is(x.line(0, 1, 20), 1);

    says("Promise 3: if there are 16");
    for (int l = 2; l < 16; l++) is(x.line(1, 0, 1), l);
    refuses(STATE, () -> x.line(0, 1, 1));

    says("Promise 3: no such POINT is named ahead of the same, of the cost, and of 16");
    refuses(INDEX, () -> x.line(2, 2, 0));
    refuses(INDEX, () -> x.line(-1, -1, 1));
    refuses(INDEX, () -> x.line(0, 2, 21));
    refuses(INDEX, () -> x.line(2, 0, 1));

    says("Promise 3: the same, and the cost, are named ahead of 16");
    refuses(ARGUMENT, () -> x.line(0, 0, 1));
    refuses(ARGUMENT, () -> x.line(0, 1, 21));
    is(x.net(1), 16);
  }

  private static void cut() {
    says("Promise 4: Returns how many PARTS there are then");
    Twincuts x = path(8);
    for (int l = 0; l < 7; l++) is(x.cut(l, true), l + 2);
    for (int l = 0; l < 7; l++) is(x.cut(l, false), 7 - l);

    says("Promise 4: CUTS a LINE that is CUT, lets one STAND that STANDS");
    is(x.cut(3, false), 1);
    is(x.cut(3, true), 2);
    is(x.cut(3, true), 2);
    is(x.net(2), 6);
    is(x.cut(3, false), 1);

    says("Promise 4: if there is no such LINE");
    refuses(INDEX, () -> x.cut(7, true));
    refuses(INDEX, () -> x.cut(-1, false));
    refuses(INDEX, () -> x.cut(Integer.MAX_VALUE, true));
    refuses(INDEX, () -> x.cut(Integer.MIN_VALUE, true));
    is(x.net(2), 7);
  }

  private static void price() {
    says("Promise 5: Returns that before");
    Twincuts x = path(2);
    is(x.price(0, 20), 1);
    is(x.price(0, 20), 20);
    is(x.price(0, 1), 20);
    x.cut(0, true);
    is(x.price(0, 7), 1);
    is(x.ofLine(0, 2), 7);

    says("Promise 5: if cost is not 1 to 20");
    refuses(ARGUMENT, () -> x.price(0, 0));
    refuses(ARGUMENT, () -> x.price(0, 21));
    refuses(ARGUMENT, () -> x.price(0, Integer.MIN_VALUE));
    is(x.ofLine(0, 2), 7);

    says("Promise 5: if there is no such LINE, ahead of the cost");
    refuses(INDEX, () -> x.price(1, 1));
    refuses(INDEX, () -> x.price(-1, 1));
    refuses(INDEX, () -> x.price(1, 0));
    refuses(INDEX, () -> x.price(-1, 21));
  }

  private static void turn() {
    says("Promise 6: the other one is the next one (of the last place: the first one): 16 LINES");
    Twincuts x = likeLines(16);
    x.turn(0, 15);
    is(x.order(0, 0), 15);
    is(x.order(0, 15), 0);
    for (int place = 1; place < 15; place++) is(x.order(0, place), place);
    x.turn(0, 14);
    is(x.order(0, 14), 0);
    is(x.order(0, 15), 14);

    says("Promise 6: (of the last place: the first one): two LINES, just one LINE");
    Twincuts two = likeLines(2);
    is(two.turn(0, 1), 2);
    is(two.order(0, 0), 1);
    is(two.turn(0, 0), 2);
    is(two.order(0, 0), 0);
    Twincuts one = path(2);
    is(one.turn(1, 0), 1);
    is(one.order(1, 0), 0);
    is(one.ofPoint(1, 6), 1);

    says("Promise 6: two of a POINT alone change places");
    is(two.turn(1, 0), 2);
    is(two.order(0, 0), 0);
    is(two.order(1, 0), 1);

    says("Promise 6: Returns how many FACES there are then (those without a number, too)");
    Twincuts three = likeLines(3);
    three.point();
    is(three.turn(0, 2), 4);
    is(three.turn(0, 2), 2);
    three.cut(0, true);
    three.cut(1, true);
    three.cut(2, true);
    is(three.turn(0, 1), 3);

    says("Promise 6: if there is no such POINT, or place in its ORDER");
    refuses(INDEX, () -> three.turn(3, 0));
    refuses(INDEX, () -> three.turn(-1, 0));
    refuses(INDEX, () -> three.turn(0, 3));
    refuses(INDEX, () -> three.turn(0, -1));
    refuses(INDEX, () -> three.turn(2, 0));
    refuses(INDEX, () -> x.turn(0, 16));
    refuses(INDEX, () -> x.turn(1, Integer.MAX_VALUE));
    refuses(INDEX, () -> x.turn(1, Integer.MIN_VALUE));
  }

  private static void knock() {
    says("Promise 7: Returns how many were REFUSED ever, with this");
    Twincuts x = new Twincuts();
    for (int k = 1; k <= 512; k++) is(x.knock(), k);
  }

  // ---- promises 8 to 10

  private static void ofPoint() {
    Twincuts x = likeLines(16);
    x.point();

    says("Promise 8: what: 0 to 6, of the first and the last POINT");
    int[][] due = {{0, 16, 0, 1, 0, 2, 16}, {0, 16, 0, 1, 1, 1, 16}, {1, 0, 0, 0, 0, 0, 0}};
    for (int p = 0; p < 3; p++) {
      for (int what = 0; what <= 6; what++) is(x.ofPoint(p, what), due[p][what]);
    }

    says("Promise 8: 1 how many of its LINES STAND, 6 how many LINES are in its ORDER: none, and all 16");
    for (int l = 0; l < 16; l++) x.cut(l, true);
    for (int what = 0; what <= 6; what++) is(x.ofPoint(0, what), what == 6 ? 16 : 0);

    says("Promise 8: 3 in how many BLOCKS it is (of LINES of it that STAND): none, and the most there can be");
    Twincuts star = house(8);
    for (int p = 1; p < 8; p++) star.line(p, 0, 1);
    is(star.ofPoint(0, 3), 7);
    is(star.ofPoint(7, 3), 1);
    star.cut(6, true);
    is(star.ofPoint(0, 3), 6);
    is(star.ofPoint(7, 3), 0);

    says("Promise 8: if there is no such POINT, ahead of what");
    refuses(INDEX, () -> x.ofPoint(3, 0));
    refuses(INDEX, () -> x.ofPoint(-1, 6));
    refuses(INDEX, () -> x.ofPoint(3, 7));
    refuses(INDEX, () -> x.ofPoint(-1, -1));

    says("Promise 8: if what is not 0 to 6");
    refuses(ARGUMENT, () -> x.ofPoint(2, 7));
    refuses(ARGUMENT, () -> x.ofPoint(0, -1));
    refuses(ARGUMENT, () -> x.ofPoint(0, Integer.MAX_VALUE));
    refuses(ARGUMENT, () -> x.ofPoint(0, Integer.MIN_VALUE));
  }

  private static void ofLine() {
    Twincuts x = house(8);
    x.line(7, 0, 20);
    x.line(0, 7, 1);

    says("Promise 9: 0 its smaller POINT, 1 the greater one, whichever was told first");
    for (int l = 0; l < 2; l++) {
      is(x.ofLine(l, 0), 0);
      is(x.ofLine(l, 1), 7);
    }

    says("Promise 9: 5 its BLOCK (NONE, if it is CUT), 7 and 8: NONE, if it is CUT");
    x.cut(0, true);
    int[] due = {0, 7, 20, 0, 0, NONE, 0, NONE, NONE};
    for (int what = 0; what <= 8; what++) is(x.ofLine(0, what), due[what]);
    int[] other = {0, 7, 1, 1, 1, 0, 0, 0, 0};
    for (int what = 0; what <= 8; what++) is(x.ofLine(1, what), other[what]);

    says("Promise 9: 6 1 if it is in the CHEAPEST TREE, otherwise 0");
    Twincuts tree = likeLines(16);
    is(tree.ofLine(0, 6), 1);
    is(tree.ofLine(15, 6), 0);
    tree.price(0, 2);
    is(tree.ofLine(0, 6), 0);
    is(tree.ofLine(1, 6), 1);

    says("Promise 9: if there is no such LINE, ahead of what");
    refuses(INDEX, () -> x.ofLine(2, 0));
    refuses(INDEX, () -> x.ofLine(-1, 8));
    refuses(INDEX, () -> x.ofLine(2, 9));
    refuses(INDEX, () -> x.ofLine(-1, -1));
    refuses(INDEX, () -> tree.ofLine(16, 0));

    says("Promise 9: if what is not 0 to 8");
    refuses(ARGUMENT, () -> x.ofLine(1, 9));
    refuses(ARGUMENT, () -> x.ofLine(0, -1));
    refuses(ARGUMENT, () -> x.ofLine(0, Integer.MAX_VALUE));
    refuses(ARGUMENT, () -> x.ofLine(0, Integer.MIN_VALUE));
  }

  private static void net() {
    says("Promise 10: all full: 8 POINTS, 16 LINES");
    Twincuts full = fourByFour();
    int[] due = {8, 16, 16, 1, 0, 0, 1, 0, 0, 7, 2, full.net(11), full.net(12), 2, 0};
    for (int what = 0; what <= 14; what++) is(full.net(what), due[what]);
    is(full.net(11) + 2 * full.net(12), 10);

    says("Promise 10: 9 COST of the CHEAPEST TREE (NONE)");
    is(house(1).net(9), 0);
    is(house(2).net(9), NONE);

    says("Promise 10: 13 the greatest DISTANCE of two POINTS of one PART (0 without two)");
    is(new Twincuts().net(13), 0);
    is(house(8).net(13), 0);
    Twincuts x = house(8);
    x.line(0, 1, 1);
    is(x.net(13), 1);
    x.cut(0, true);
    is(x.net(13), 0);
    is(path(8).net(13), 7);
    is(ring(8).net(13), 4);
    Twincuts parts = path(8);
    parts.cut(1, true);
    is(parts.net(13), 5);

    says("Promise 10: 11 FACES (those without a number, too)");
    is(parts.net(11), 2);
    parts.cut(0, true);
    is(parts.net(11), 3);

    says("Promise 10: if what is not 0 to 14");
    refuses(ARGUMENT, () -> full.net(15));
    refuses(ARGUMENT, () -> full.net(-1));
    refuses(ARGUMENT, () -> full.net(Integer.MAX_VALUE));
    refuses(ARGUMENT, () -> full.net(Integer.MIN_VALUE));
  }

  // ---- promises 11 to 16

  private static void pairAndTwin() {
    says("Promise 11: NONE, if there is no such PAIR");
    Twincuts ring = ring(8);
    is(ring.pair(19, false), 5);
    is(ring.pair(19, true), 7);
    is(ring.pair(20, false), NONE);
    is(ring.pair(20, true), NONE);
    is(ring.pair(28, true), NONE);
    is(ring.pair(Integer.MAX_VALUE, false), NONE);
    is(new Twincuts().pair(0, true), NONE);
    is(house(8).pair(0, true), NONE);

    says("Promise 11: NONE, if there is no such PAIR any more");
    ring.cut(0, true);
    is(ring.pair(0, false), NONE);
    is(ring.pair(19, true), NONE);

    says("Promise 11: if nth is below 0");
    refuses(ARGUMENT, () -> ring.pair(-1, false));
    refuses(ARGUMENT, () -> ring.pair(-1, true));
    refuses(ARGUMENT, () -> ring.pair(Integer.MIN_VALUE, true));
    refuses(ARGUMENT, () -> new Twincuts().pair(-1, false));

    says("Promise 12: NONE, if there are no such TWINS");
    Twincuts other = ring(8);
    is(other.twin(27, false), 6);
    is(other.twin(27, true), 7);
    is(other.twin(28, false), NONE);
    is(other.twin(28, true), NONE);
    is(other.twin(120, true), NONE);
    is(other.twin(Integer.MAX_VALUE, false), NONE);
    is(new Twincuts().twin(0, true), NONE);
    is(path(8).twin(0, true), NONE);

    says("Promise 12: NONE, if there are no such TWINS any more");
    other.cut(7, true);
    is(other.twin(0, false), NONE);
    is(other.twin(27, true), NONE);

    says("Promise 12: if nth is below 0");
    refuses(ARGUMENT, () -> other.twin(-1, false));
    refuses(ARGUMENT, () -> other.twin(-1, true));
    refuses(ARGUMENT, () -> other.twin(Integer.MIN_VALUE, true));
    refuses(ARGUMENT, () -> new Twincuts().twin(-1, false));
  }

  private static void between() {
    Twincuts x = path(8);

    says("Promise 13: what: 0 to 5, of the first and the last POINT");
    int[] due = {1, 1, 7, 2, 1, 1};
    for (int what = 0; what <= 5; what++) is(x.between(0, 7, what), due[what]);
    int[] back = {1, 1, 7, 2, 128, 64};
    for (int what = 0; what <= 5; what++) is(x.between(7, 0, what), back[what]);

    says("Promise 13: 2 DISTANCE (NONE), 3 the GAP (NONE, if both are LINKED)");
    is(x.between(6, 7, 3), NONE);
    is(x.between(6, 7, 2), 1);
    x.cut(6, true);
    is(x.between(6, 7, 3), 0);
    is(x.between(6, 7, 2), NONE);

    says("Promise 13: 4 the SIDE (of one)");
    is(x.between(6, 7, 4), 127);
    is(x.between(7, 6, 4), 128);

    says("Promise 13: if there is no such POINT, of both, ahead of the same and of what");
    Twincuts y = house(7);
    refuses(INDEX, () -> y.between(7, 0, 0));
    refuses(INDEX, () -> y.between(0, 7, 0));
    refuses(INDEX, () -> y.between(-1, 0, 0));
    refuses(INDEX, () -> y.between(0, -1, 0));
    refuses(INDEX, () -> y.between(7, 7, 0));
    refuses(INDEX, () -> y.between(-1, -1, 0));
    refuses(INDEX, () -> y.between(7, 0, 6));
    refuses(INDEX, () -> y.between(0, 7, -1));

    says("Promise 13: if both are the same, or what is not 0 to 5");
    refuses(ARGUMENT, () -> y.between(0, 0, 0));
    refuses(ARGUMENT, () -> y.between(6, 6, 5));
    refuses(ARGUMENT, () -> y.between(6, 5, 6));
    refuses(ARGUMENT, () -> y.between(5, 6, -1));
    refuses(ARGUMENT, () -> y.between(6, 6, 6));
    refuses(ARGUMENT, () -> y.between(0, 1, Integer.MAX_VALUE));
    refuses(ARGUMENT, () -> y.between(0, 1, Integer.MIN_VALUE));
  }

  private static void treesOfPromise14() {
    says("Promise 14: Returns TREES: from no POINT to 8, and back to none by cutting");
    Twincuts x = new Twincuts();
    is(x.trees(), 0);
    x.point();
    is(x.trees(), 1);
    x.point();
    is(x.trees(), 0);
    x.line(0, 1, 1);
    is(x.trees(), 1);
    x.line(1, 0, 20);
    is(x.trees(), 2);
    x.cut(0, true);
    is(x.trees(), 1);
    x.cut(1, true);
    is(x.trees(), 0);
    Twincuts last = fourByFour();
    for (int p = 0; p < 4; p++) last.cut(4 * p + 3, true);
    is(last.trees(), 0);
    last.cut(3, false);
    is(last.trees(), 432);
  }

  private static void orderAndRow() {
    Twincuts x = likeLines(16);
    x.point();

    says("Promise 15: a place in its ORDER, from 0 on");
    is(x.order(0, 0), 0);
    is(x.order(1, 15), 15);

    says("Promise 15: if there is no such POINT, or place in its ORDER");
    refuses(INDEX, () -> x.order(0, 16));
    refuses(INDEX, () -> x.order(1, -1));
    refuses(INDEX, () -> x.order(2, 0));
    refuses(INDEX, () -> x.order(3, 0));
    refuses(INDEX, () -> x.order(-1, 0));
    refuses(INDEX, () -> x.order(0, Integer.MAX_VALUE));
    refuses(INDEX, () -> x.order(0, Integer.MIN_VALUE));
    refuses(INDEX, () -> path(8).order(0, 1));

    says("Promise 16: \".\" without LINES");
    same(x.row(2), ".");
    same(house(1).row(0), ".");

    says("Promise 16: for each LINE \"-\" (if it is CUT, \"x\" instead) and the POINT at its other end: all 16");
    same(x.row(0), "-1-1-1-1-1-1-1-1-1-1-1-1-1-1-1-1");
    x.cut(0, true);
    x.cut(15, true);
    same(x.row(1), "x0-0-0-0-0-0-0-0-0-0-0-0-0-0-0x0");
    for (int l = 0; l < 16; l++) x.cut(l, true);
    same(x.row(0), "x1x1x1x1x1x1x1x1x1x1x1x1x1x1x1x1");
    Twincuts star = house(8);
    for (int p = 0; p < 7; p++) star.line(p, 7, 1);
    same(star.row(7), "-0-1-2-3-4-5-6");
    same(star.row(0), "-7");

    says("Promise 16: if there is no such POINT");
    refuses(INDEX, () -> x.row(3));
    refuses(INDEX, () -> x.row(-1));
    refuses(INDEX, () -> star.row(8));
    refuses(INDEX, () -> star.row(Integer.MAX_VALUE));
    refuses(INDEX, () -> star.row(Integer.MIN_VALUE));
  }

  // ---- promises 17 to 21

  private static void without() {
    Twincuts x = fullHouse();

    says("Promise 17: without no POINTS and no LINES, without all of them");
    is(x.without(0, 0), 1);
    is(x.without(255, 0), 0);
    is(x.without(0, 65535), 8);
    is(x.without(255, 65535), 0);
    is(x.without(127, 65535), 1);
    is(x.without(254, 0), 1);

    says("Promise 17: without these POINTS (and their LINES) and these LINES");
    Twincuts path = path(8);
    is(path.without(1, 0), 1);
    is(path.without(2, 0), 2);
    is(path.without(170, 0), 4);
    is(path.without(0, 64), 2);
    is(path.without(128, 64), 1);
    is(path.without(2, 3), 2);
    path.cut(3, true);
    is(path.without(0, 0), 2);
    is(path.without(0, 8), 2);
    is(path.net(2), 6);

    says("Promise 17: if points is no set of POINTS that there are");
    refuses(ARGUMENT, () -> x.without(256, 0));
    refuses(ARGUMENT, () -> x.without(-1, 0));
    refuses(ARGUMENT, () -> x.without(Integer.MIN_VALUE, 0));
    refuses(ARGUMENT, () -> x.without(Integer.MAX_VALUE, 0));
    refuses(ARGUMENT, () -> x.without(257, 1));
    Twincuts some = path(3);
    is(some.without(7, 3), 0);
    refuses(ARGUMENT, () -> some.without(8, 0));
    refuses(ARGUMENT, () -> new Twincuts().without(1, 0));

    says("Promise 17: or lines is no set of LINES that there are");
    refuses(ARGUMENT, () -> x.without(0, 65536));
    refuses(ARGUMENT, () -> x.without(0, -1));
    refuses(ARGUMENT, () -> x.without(0, Integer.MIN_VALUE));
    refuses(ARGUMENT, () -> x.without(0, Integer.MAX_VALUE));
    refuses(ARGUMENT, () -> some.without(0, 4));
    refuses(ARGUMENT, () -> house(8).without(0, 1));
    refuses(ARGUMENT, () -> new Twincuts().without(0, 1));
  }

  private static void wouldLink() {
    says("Promise 18: how many TREES there would be with a LINE more: two POINTS, three POINTS");
    is(house(2).wouldLink(1, 0), 1);
    is(house(3).wouldLink(0, 2), 0);
    Twincuts path = path(8);
    is(path.wouldLink(0, 7), 8);
    path.cut(6, true);
    is(path.wouldLink(0, 7), 1);
    is(path.wouldLink(0, 6), 0);

    says("Promise 18: with a LINE more: when there are 16, too");
    is(likeLines(16).wouldLink(0, 1), 17);
    Twincuts full = fourByFour();
    is(full.wouldLink(0, 1), 6144);
    is(full.wouldLink(7, 0), 5888);

    says("Promise 18: (nothing is changed)");
    is(full.trees(), 4096);
    is(full.net(1), 16);
    is(full.ofPoint(0, 6), 4);

    says("Promise 18: if there is no such POINT, of both, ahead of the same");
    refuses(INDEX, () -> path.wouldLink(8, 0));
    refuses(INDEX, () -> path.wouldLink(0, 8));
    refuses(INDEX, () -> path.wouldLink(-1, 0));
    refuses(INDEX, () -> path.wouldLink(0, -1));
    refuses(INDEX, () -> path.wouldLink(8, 8));
    refuses(INDEX, () -> path.wouldLink(Integer.MIN_VALUE, Integer.MIN_VALUE));

    says("Promise 18: if both are the same");
    refuses(ARGUMENT, () -> path.wouldLink(0, 0));
    refuses(ARGUMENT, () -> path.wouldLink(7, 7));
  }

  private static void wouldTurn() {
    says("Promise 19: NONE, if that is nowhere more than there are now: no LINE, one, two");
    is(house(1).wouldTurn(0), NONE);
    is(path(2).wouldTurn(0), NONE);
    is(likeLines(2).wouldTurn(0), NONE);

    says("Promise 19: NONE, if that is nowhere more: the most there can be, and CUT ones alone");
    Twincuts flat = likeLines(3);
    flat.turn(1, 0);
    is(flat.net(12), 0);
    is(flat.wouldTurn(0), NONE);
    flat.cut(0, true);
    flat.cut(1, true);
    flat.cut(2, true);
    is(flat.wouldTurn(0), NONE);

    says("Promise 19: the place .. that with the smallest number of several");
    is(likeLines(3).wouldTurn(1), 0);

    says("Promise 19: the place .. the last one, which turns the last and the first LINE");
    Twincuts last = likeLines(4);
    last.turn(1, 0);
    last.turn(1, 2);
    is(last.net(11), 4);
    last.turn(1, 3);
    is(last.net(11), 2);
    is(last.wouldTurn(1), 3);
    Twincuts same = likeLines(4);
    same.turn(1, 0);
    same.turn(1, 2);
    same.turn(1, 3);
    is(last.digest(), same.digest());
    is(last.turn(1, 3), 4);

    says("Promise 19: if there is no such POINT");
    refuses(INDEX, () -> last.wouldTurn(2));
    refuses(INDEX, () -> last.wouldTurn(-1));
    refuses(INDEX, () -> fullHouse().wouldTurn(8));
    refuses(INDEX, () -> last.wouldTurn(Integer.MAX_VALUE));
    refuses(INDEX, () -> last.wouldTurn(Integer.MIN_VALUE));
  }

  private static void isSound() {
    says("Promise 20: TREES are more than 0, if there is one PART, and 0, if there are more: no PART, one, eight");
    sound(new Twincuts());
    sound(house(1));
    sound(house(8));

    says("Promise 20: for each two POINTS: the most WAYS, the most LINE WAYS, the greatest GAP");
    sound(likeLines(16));
    sound(hubs());
    sound(fourByFour());

    says("Promise 20: HANDLES are 0 or more; BRIDGES are alone in theirs");
    sound(path(8));
    sound(ring(8));
    Twincuts x = fullHouse();
    for (int l = 0; l < 16; l++) {
      sound(x);
      x.cut(l, true);
    }
    sound(x);
  }

  private static void digest() {
    says("Promise 21: d starts with 7901 .. which wraps around as a 64-bit integer: a new object");
    long[] v = {0, 0, 0, 0, 0, 0, 0, 0, 0, -1, 0, 0, 0, 0, 0, 0, 1};
    BigInteger d = BigInteger.valueOf(7901);
    for (long one : v) d = d.multiply(BigInteger.valueOf(31)).add(BigInteger.valueOf(one));
    is(d.bitLength() > 64 ? 1 : 0, 1);
    is(new Twincuts().digest(), d.longValue());

    says("Promise 21: for each v in this order: few of all, all of all, each with what is behind it");
    digestIsOf(() -> new Twincuts());
    digestIsOf(() -> house(1));
    digestIsOf(() -> house(8));
    digestIsOf(() -> path(2));
    digestIsOf(() -> ring(8));
    digestIsOf(() -> hubs());
    digestIsOf(() -> likeLines(2));
    digestIsOf(() -> likeLines(16));
    digestIsOf(() -> fullHouse());
    digestIsOf(() -> fourByFour());

    says("Promise 21: the same again, and by other calls the same");
    Twincuts x = fullHouse();
    long before = x.digest();
    is(x.digest(), before);
    x.price(0, 20);
    is(x.digest() == before ? 1 : 0, 0);
    x.price(0, 1);
    is(x.digest(), before);
  }

  private interface Made {
    Twincuts make();
  }

  /** Two objects alike, so that none is asked more often than an object may be. */
  private static void digestIsOf(Made made) {
    BigInteger d = BigInteger.valueOf(7901);
    for (int what = 0; what <= 14; what++) d = with(d, made.make().net(what));
    Twincuts x = made.make();
    int points = x.net(0);
    for (int p = 0; p < points; p++) {
      for (int what = 0; what <= 6; what++) d = with(d, x.ofPoint(p, what));
      d = with(d, x.wouldTurn(p));
      for (int q = p + 1; q < points; q++) {
        for (int what = 0; what <= 5; what++) d = with(d, x.between(p, q, what));
      }
    }
    Twincuts y = made.make();
    int lines = y.net(1);
    for (int l = 0; l < lines; l++) {
      for (int what = 0; what <= 8; what++) d = with(d, y.ofLine(l, what));
    }
    int pairs = y.net(7);
    for (int nth = 0; nth < pairs; nth++) d = with(with(d, y.pair(nth, false)), y.pair(nth, true));
    int twins = y.net(8);
    for (int nth = 0; nth < twins; nth++) d = with(with(d, y.twin(nth, false)), y.twin(nth, true));
    d = with(d, y.trees());
    d = with(d, y.isSound() ? 1 : 0);
    is(made.make().digest(), d.longValue());
  }

  private static BigInteger with(BigInteger d, long v) {
    return d.multiply(BigInteger.valueOf(31)).add(BigInteger.valueOf(v));
  }

  // ---- nets

  private static Twincuts house(int points) {
    Twincuts x = new Twincuts();
    for (int p = 0; p < points; p++) x.point();
    return x;
  }

  private static Twincuts path(int points) {
    Twincuts x = house(points);
    for (int p = 0; p + 1 < points; p++) x.line(p, p + 1, 1);
    return x;
  }

  private static Twincuts ring(int points) {
    Twincuts x = path(points);
    x.line(points - 1, 0, 1);
    return x;
  }

  /** All of the same two points. */
  private static Twincuts likeLines(int lines) {
    Twincuts x = house(2);
    for (int l = 0; l < lines; l++) x.line(0, 1, 1);
    return x;
  }

  /** The points 0 and 7, and between them each other one. */
  private static Twincuts hubs() {
    Twincuts x = house(8);
    for (int p = 1; p < 7; p++) {
      x.line(0, p, 1);
      x.line(p, 7, 1);
    }
    return x;
  }

  /** Each of the points 0 to 3 with each of 4 to 7. */
  private static Twincuts fourByFour() {
    Twincuts x = house(8);
    for (int p = 0; p < 4; p++) {
      for (int q = 4; q < 8; q++) x.line(p, q, 1);
    }
    return x;
  }

  /** 8 points, a ring about them, and a ring of all second ones. */
  private static Twincuts fullHouse() {
    Twincuts x = ring(8);
    for (int p = 0; p < 8; p++) x.line(p, (p + 2) % 8, 1 + 2 * p);
    return x;
  }

  // ---- how it is told

  private static void says(String itsSentence) {
    sentence = itsSentence;
    sentences++;
  }

  private static void is(long got, long due) {
    same("" + got, "" + due);
  }

  private static void sound(Twincuts x) {
    same("" + x.isSound(), "true");
  }

  private static void pairsAre(Twincuts x, int... due) {
    is(x.net(7), due.length / 2);
    for (int k = 0; k <= due.length / 2; k++) {
      is(x.pair(k, false), 2 * k < due.length ? due[2 * k] : NONE);
      is(x.pair(k, true), 2 * k < due.length ? due[2 * k + 1] : NONE);
    }
  }

  private static void twinsAre(Twincuts x, int... due) {
    is(x.net(8), due.length / 2);
    for (int k = 0; k <= due.length / 2; k++) {
      is(x.twin(k, false), 2 * k < due.length ? due[2 * k] : NONE);
      is(x.twin(k, true), 2 * k < due.length ? due[2 * k + 1] : NONE);
    }
  }

  /** The very class that the document names: none below it, which the machine throws by itself. */
  private static void refuses(String due, Runnable call) {
    String got = "nothing is thrown";
    try {
      call.run();
    } catch (RuntimeException e) {
      got = e.getClass().getName();
    }
    same(got, due);
  }

  private static void same(String got, String due) {
    checks++;
    if (!got.equals(due)) {
      wrong++;
      StackTraceElement[] calls = new Throwable().getStackTrace();
      int k = 0;
      while (k + 1 < calls.length && calls[k].getMethodName().matches("same|is|refuses|sound|pairsAre|twinsAre")) k++;
      System.out.println(sentence + "\n  line " + calls[k].getLineNumber() + ": answered " + got + ", due is " + due);
    }
  }
}
