import java.util.ArrayList;
import java.util.Collections;
import java.util.HashSet;
import java.util.List;
import java.util.Set;

/**
 * Plays long runs of calls, right and wrong ones, and compares each answer with that of a slow model
 * that follows the words of the document: it lists all circles, all sets of lines, all colourings.
 */
public final class AgainstModel {
  private static final int NONE = -1;
  private static int wrong = 0;
  private static long asked = 0;

  public static void main(String[] args) {
    for (int run = 0; run < 260; run++) {
      play(run);
    }
    System.out.println(asked + " answers compared with the model, " + wrong + " were wrong");
    if (wrong != 0) System.exit(1);
  }

  // ---- a run of calls

  private static void play(int run) {
    Dice dice = new Dice(run + 1);
    Twincuts x = new Twincuts();
    Model m = new Model();
    int points = run % 10 == 0 ? 8 : 1 + dice.below(8);
    int calls = 40 + dice.below(60);
    for (int k = 0; k < points; k++) compare(run, m, "point", x, m, 0, 0, 0);
    for (int k = 0; k < calls && wrong < 20; k++) {
      change(run, dice, x, m);
      askSome(run, dice, x, m);
      if (k % 12 == 11) askAll(run, x, m);
    }
    askAll(run, x, m);
  }

  private static void change(int run, Dice dice, Twincuts x, Model m) {
    int n = m.points();
    int l = m.lines.size();
    int kind = dice.below(100);
    if (kind < 45) {
      compare(run, m, "line", x, m, dice.near(n), dice.near(n), dice.below(12) == 0 ? dice.below(30) - 5 : 1 + dice.below(20));
    } else if (kind < 65) {
      compare(run, m, "cut", x, m, dice.near(l), dice.below(3) == 0 ? 0 : 1, 0);
    } else if (kind < 75) {
      compare(run, m, "cut", x, m, dice.near(l), 0, 0);
    } else if (kind < 90) {
      int p = dice.near(n);
      compare(run, m, "turn", x, m, p, dice.near(p >= 0 && p < n ? m.orders.get(p).size() : 2), 0);
    } else if (kind < 95) {
      compare(run, m, "price", x, m, dice.near(l), dice.below(23) - 1, 0);
    } else if (kind < 97) {
      compare(run, m, "knock", x, m, 0, 0, 0);
    } else if (kind < 98) {
      compare(run, m, "point", x, m, 0, 0, 0);
    } else {
      compare(run, m, "price", x, m, dice.wild(), dice.wild(), 0);
      compare(run, m, "line", x, m, dice.wild(), dice.wild(), dice.wild());
      compare(run, m, "cut", x, m, dice.wild(), 1, 0);
      compare(run, m, "turn", x, m, dice.wild(), dice.wild(), 0);
    }
  }

  private static void askSome(int run, Dice dice, Twincuts x, Model m) {
    int n = m.points();
    int l = m.lines.size();
    String[] calls = {"ofPoint", "ofLine", "net", "pair", "twin", "between", "order", "row", "without", "wouldLink", "wouldTurn"};
    for (int k = 0; k < 4; k++) {
      String call = calls[dice.below(calls.length)];
      boolean isWild = dice.below(6) == 0;
      int a = isWild ? dice.wild() : dice.near(n);
      int b = isWild && dice.below(2) == 0 ? dice.wild() : dice.near(n);
      int c = dice.below(17) - 1;
      switch (call) {
        case "ofPoint": compare(run, m, call, x, m, a, dice.below(10) - 1, 0); break;
        case "ofLine": compare(run, m, call, x, m, isWild ? a : dice.near(l), dice.below(12) - 1, 0); break;
        case "net": compare(run, m, call, x, m, isWild ? a : c, 0, 0); break;
        case "pair": case "twin": compare(run, m, call, x, m, isWild ? a : dice.below(8) - 1, dice.below(2), 0); break;
        case "between": compare(run, m, call, x, m, a, b, dice.below(9) - 1); break;
        case "order": compare(run, m, call, x, m, a, isWild ? dice.wild() : dice.near(5), 0); break;
        case "without":
          compare(run, m, call, x, m, isWild ? dice.wild() : dice.below(1 << n), isWild ? b : dice.below(1 << l), 0); break;
        default: compare(run, m, call, x, m, a, b, 0);
      }
    }
  }

  private static void askAll(int run, Twincuts x, Model m) {
    for (int what = -1; what <= 15; what++) compare(run, m, "net", x, m, what, 0, 0);
    for (int p = 0; p < m.points(); p++) {
      for (int what = -1; what <= 7; what++) compare(run, m, "ofPoint", x, m, p, what, 0);
      for (int place = -1; place <= m.orders.get(p).size(); place++) compare(run, m, "order", x, m, p, place, 0);
      compare(run, m, "row", x, m, p, 0, 0);
      compare(run, m, "wouldTurn", x, m, p, 0, 0);
      for (int q = 0; q < m.points(); q++) {
        for (int what = -1; what <= 6; what++) compare(run, m, "between", x, m, p, q, what);
        compare(run, m, "wouldLink", x, m, p, q, 0);
      }
    }
    for (int l = 0; l < m.lines.size(); l++) {
      for (int what = -1; what <= 9; what++) compare(run, m, "ofLine", x, m, l, what, 0);
    }
    for (int nth = 0; nth <= 121; nth++) {
      for (int is = 0; is <= 1; is++) {
        compare(run, m, "pair", x, m, nth, is, 0);
        compare(run, m, "twin", x, m, nth, is, 0);
      }
    }
    compare(run, m, "trees", x, m, 0, 0, 0);
    compare(run, m, "isSound", x, m, 0, 0, 0);
    compare(run, m, "digest", x, m, 0, 0, 0);
    checkWaysAreThere(run, x, m);
  }

  /** As many ways as are told are sought for and found; that there are no more is told by the model's cuts. */
  private static void checkWaysAreThere(int run, Twincuts x, Model m) {
    for (int p = 0; p < m.points(); p++) {
      for (int q = p + 1; q < m.points(); q++) {
        List<int[]> paths = m.paths(p, q);
        if (paths.size() > 120) continue;
        asked += 2;
        if (!m.canPack(paths, 0, x.between(p, q, 0), 0, 0, true)) fault(run, "ways " + p + " " + q, "too many", "fewer");
        if (!m.canPack(paths, 0, x.between(p, q, 1), 0, 0, false)) fault(run, "line ways " + p + " " + q, "too many", "fewer");
      }
    }
  }

  private static void compare(int run, Model shown, String call, Twincuts x, Model m, int a, int b, int c) {
    asked++;
    String got = answer(x, call, a, b, c);
    String due = m.answer(call, a, b, c);
    if (!got.equals(due)) fault(run, call + "(" + a + ", " + b + ", " + c + ") on " + shown, got, due);
  }

  private static void fault(int run, String call, String got, String due) {
    wrong++;
    System.out.println("run " + run + ": " + call + " answered " + got + ", due is " + due);
  }

  private static String answer(Twincuts x, String call, int a, int b, int c) {
    try {
      switch (call) {
        case "point": return "" + x.point();
        case "line": return "" + x.line(a, b, c);
        case "cut": return "" + x.cut(a, b == 1);
        case "price": return "" + x.price(a, b);
        case "turn": return "" + x.turn(a, b);
        case "knock": return "" + x.knock();
        case "ofPoint": return "" + x.ofPoint(a, b);
        case "ofLine": return "" + x.ofLine(a, b);
        case "net": return "" + x.net(a);
        case "pair": return "" + x.pair(a, b == 1);
        case "twin": return "" + x.twin(a, b == 1);
        case "between": return "" + x.between(a, b, c);
        case "trees": return "" + x.trees();
        case "order": return "" + x.order(a, b);
        case "row": return x.row(a);
        case "without": return "" + x.without(a, b);
        case "wouldLink": return "" + x.wouldLink(a, b);
        case "wouldTurn": return "" + x.wouldTurn(a);
        case "isSound": return "" + x.isSound();
        default: return "" + x.digest();
      }
    } catch (RuntimeException e) {
      return e.getClass().getSimpleName();
    }
  }

  /** The same numbers in each run of the test. */
  private static final class Dice {
    private long state;

    Dice(long seed) {
      state = seed * 0x9E3779B97F4A7C15L;
    }

    int below(int bound) {
      state = state * 6364136223846793005L + 1442695040888963407L;
      return (int) ((state >>> 33) % Math.max(1, bound));
    }

    /** Mostly from 0 to below count, at times just outside. */
    int near(int count) {
      return below(15) == 0 ? (below(2) == 0 ? -1 : count) : below(count);
    }

    int wild() {
      int[] some = {Integer.MIN_VALUE, Integer.MAX_VALUE, -1, -2, 0, 1, 7, 8, 15, 16, 31, 32, 33, 255, 256, 65535, 65536, 1 << 30, -256, -65536};
      return some[below(some.length)];
    }
  }

  // ---- the model

  private static final class Line {
    int a, b, cost;
    boolean isCut;

    int otherEnd(int p) {
      return p == a ? b : a;
    }

    boolean isOf(int p) {
      return p == a || p == b;
    }
  }

  private static final class Model {
    final List<Line> lines = new ArrayList<>();
    final List<List<Integer>> orders = new ArrayList<>();
    int refused = 0;

    int points() {
      return orders.size();
    }

    @Override
    public String toString() {
      StringBuilder s = new StringBuilder();
      for (Line l : lines) s.append(l.a).append(l.isCut ? "x" : "-").append(l.b).append(" ");
      return s + orders.toString();
    }

    String answer(String call, int a, int b, int c) {
      boolean isA = a >= 0 && a < points();
      boolean isB = b >= 0 && b < points();
      boolean isLine = a >= 0 && a < lines.size();
      String noIndex = "IndexOutOfBoundsException";
      String noArgument = "IllegalArgumentException";
      switch (call) {
        case "point":
          if (points() == 8) return "IllegalStateException";
          orders.add(new ArrayList<>());
          return "" + (points() - 1);
        case "line":
          if (!isA || !isB) return noIndex;
          if (a == b || c < 1 || c > 20) return noArgument;
          if (lines.size() == 16) return "IllegalStateException";
          return "" + addLine(a, b, c);
        case "cut":
          if (!isLine) return noIndex;
          lines.get(a).isCut = b == 1;
          return "" + net(3);
        case "price":
          if (!isLine) return noIndex;
          if (b < 1 || b > 20) return noArgument;
          int before = lines.get(a).cost;
          lines.get(a).cost = b;
          return "" + before;
        case "turn":
          if (!isA || b < 0 || b >= orders.get(a).size()) return noIndex;
          turn(a, b);
          return "" + net(11);
        case "knock": return "" + ++refused;
        case "ofPoint": return !isA ? noIndex : b < 0 || b > 6 ? noArgument : "" + ofPoint(a, b);
        case "ofLine": return !isLine ? noIndex : b < 0 || b > 8 ? noArgument : "" + ofLine(a, b);
        case "net": return a < 0 || a > 14 ? noArgument : "" + net(a);
        case "pair": return a < 0 ? noArgument : "" + nth(pairs(), a, b);
        case "twin": return a < 0 ? noArgument : "" + nth(twins(), a, b);
        case "between":
          return !isA || !isB ? noIndex : a == b || c < 0 || c > 5 ? noArgument : "" + between(a, b, c);
        case "trees": return "" + trees(lines);
        case "order": return !isA || b < 0 || b >= orders.get(a).size() ? noIndex : "" + orders.get(a).get(b);
        case "row": return !isA ? noIndex : row(a);
        case "without":
          if (!isSetBelow(a, points()) || !isSetBelow(b, lines.size())) return noArgument;
          return "" + parts(a, b);
        case "wouldLink": return !isA || !isB ? noIndex : a == b ? noArgument : "" + wouldLink(a, b);
        case "wouldTurn": return !isA ? noIndex : "" + wouldTurn(a);
        case "isSound": return "true";
        default: return "" + digest();
      }
    }

    static boolean isSetBelow(int set, int count) {
      for (int k = count; k < 32; k++) if ((set >>> k & 1) != 0) return false;
      return true;
    }

    int addLine(int a, int b, int cost) {
      Line line = new Line();
      line.a = Math.min(a, b);
      line.b = Math.max(a, b);
      line.cost = cost;
      lines.add(line);
      orders.get(a).add(lines.size() - 1);
      orders.get(b).add(lines.size() - 1);
      return lines.size() - 1;
    }

    void turn(int p, int place) {
      Collections.swap(orders.get(p), place, (place + 1) % orders.get(p).size());
    }

    boolean stands(int l) {
      return !lines.get(l).isCut;
    }

    /** The part of each point, told by its smallest point; NONE for those left out. */
    int[] groups(int pointsOut, int linesOut) {
      int[] group = new int[points()];
      for (int p = 0; p < points(); p++) group[p] = (pointsOut >> p & 1) != 0 ? NONE : p;
      for (boolean again = true; again; ) {
        again = false;
        for (int l = 0; l < lines.size(); l++) {
          Line line = lines.get(l);
          if (line.isCut || (linesOut >> l & 1) != 0 || group[line.a] == NONE || group[line.b] == NONE) continue;
          int smallest = Math.min(group[line.a], group[line.b]);
          again |= group[line.a] != group[line.b];
          group[line.a] = smallest;
          group[line.b] = smallest;
        }
      }
      return group;
    }

    int parts(int pointsOut, int linesOut) {
      Set<Integer> met = new HashSet<>();
      for (int g : groups(pointsOut, linesOut)) if (g != NONE) met.add(g);
      return met.size();
    }

    boolean isBridge(int l) {
      return stands(l) && parts(0, 1 << l) > parts(0, 0);
    }

    /** In how many parts the points of p's part are without some points. */
    int fragments(int p, int pointsOut) {
      int[] whole = groups(0, 0);
      int[] rest = groups(pointsOut, 0);
      Set<Integer> met = new HashSet<>();
      for (int q = 0; q < points(); q++) if (whole[q] == whole[p] && rest[q] != NONE) met.add(rest[q]);
      return met.size();
    }

    boolean isCutPoint(int p) {
      return fragments(p, 1 << p) >= 2;
    }

    List<int[]> pairs() {
      List<int[]> all = new ArrayList<>();
      int[] group = groups(0, 0);
      for (int p = 0; p < points(); p++) {
        for (int q = p + 1; q < points(); q++) {
          if (group[p] == group[q] && fragments(p, 1 << p | 1 << q) >= 2 && fragments(p, 1 << p) < 2 && fragments(p, 1 << q) < 2) {
            all.add(new int[] {p, q});
          }
        }
      }
      return all;
    }

    List<int[]> twins() {
      List<int[]> all = new ArrayList<>();
      for (int l = 0; l < lines.size(); l++) {
        for (int k = l + 1; k < lines.size(); k++) {
          if (stands(l) && stands(k) && !isBridge(l) && !isBridge(k) && parts(0, 1 << l | 1 << k) == parts(0, 0) + 1) {
            all.add(new int[] {l, k});
          }
        }
      }
      return all;
    }

    static int nth(List<int[]> all, int nth, int isGreater) {
      return nth >= all.size() ? NONE : all.get(nth)[isGreater];
    }

    /** Sets of lines of all circles, each begun at its smallest point. */
    List<Integer> circles() {
      List<Integer> all = new ArrayList<>();
      for (int p = 0; p < points(); p++) goRound(p, p, 1 << p, 0, all);
      return all;
    }

    void goRound(int start, int at, int met, int by, List<Integer> all) {
      for (int l = 0; l < lines.size(); l++) {
        if (!stands(l) || !lines.get(l).isOf(at) || (by >> l & 1) != 0) continue;
        int to = lines.get(l).otherEnd(at);
        if (to == start) all.add(by | 1 << l);
        if (to > start && (met >> to & 1) == 0) goRound(start, to, met | 1 << to, by | 1 << l, all);
      }
    }

    /** The block of each line by the words: with each other line there is a circle by both. */
    int[] blocks() {
      int[] mates = new int[lines.size()];
      for (int l = 0; l < lines.size(); l++) mates[l] = stands(l) ? 1 << l : 0;
      for (int circle : circles()) {
        for (int l = 0; l < lines.size(); l++) if ((circle >> l & 1) != 0) mates[l] |= circle;
      }
      int[] block = new int[lines.size()];
      int count = 0;
      for (int l = 0; l < lines.size(); l++) {
        int first = mates[l] == 0 ? l : Integer.numberOfTrailingZeros(mates[l]);
        block[l] = mates[l] == 0 ? NONE : first < l ? block[first] : count++;
      }
      return block;
    }

    boolean areLinked(int p, int q) {
      for (int l = 0; l < lines.size(); l++) {
        if (stands(l) && lines.get(l).isOf(p) && lines.get(l).isOf(q) && p != q) return true;
      }
      return false;
    }

    int distance(int p, int q) {
      int[] far = new int[points()];
      java.util.Arrays.fill(far, 99);
      far[p] = 0;
      for (int round = 0; round < points(); round++) {
        for (int a = 0; a < points(); a++) {
          for (int b = 0; b < points(); b++) if (areLinked(a, b)) far[b] = Math.min(far[b], far[a] + 1);
        }
      }
      return far[q] == 99 ? NONE : far[q];
    }

    /** The fewest other points and lines between both, without which one can not come from p to q. */
    int ways(int p, int q) {
      int direct = 0;
      for (int l = 0; l < lines.size(); l++) {
        if (stands(l) && lines.get(l).isOf(p) && lines.get(l).isOf(q)) direct |= 1 << l;
      }
      int fewest = 99;
      for (int set = 0; set < 1 << points(); set++) {
        if ((set >> p & 1) != 0 || (set >> q & 1) != 0) continue;
        int[] group = groups(set, direct);
        if (group[p] != group[q]) fewest = Math.min(fewest, Integer.bitCount(set));
      }
      return fewest + Integer.bitCount(direct);
    }

    int gap(int p, int q) {
      if (areLinked(p, q)) return NONE;
      for (int size = 0; size <= points(); size++) {
        for (int set = 0; set < 1 << points(); set++) {
          if (Integer.bitCount(set) != size || (set >> p & 1) != 0 || (set >> q & 1) != 0) continue;
          int[] group = groups(set, 0);
          if (group[p] != group[q]) return set;
        }
      }
      throw new IllegalStateException("there is always a gap");
    }

    int linesOut(int set) {
      int out = 0;
      for (int l = 0; l < lines.size(); l++) {
        if (stands(l) && (set >> lines.get(l).a & 1) != (set >> lines.get(l).b & 1)) out |= 1 << l;
      }
      return out;
    }

    int side(int p, int q) {
      int best = NONE;
      int bestRank = 999999;
      boolean isAlone = true;
      for (int set = 0; set < 1 << points(); set++) {
        if ((set >> p & 1) == 0 || (set >> q & 1) != 0) continue;
        int rank = 100 * Integer.bitCount(linesOut(set)) + Integer.bitCount(set);
        if (rank == bestRank) isAlone = false;
        if (rank < bestRank) {
          best = set;
          bestRank = rank;
          isAlone = true;
        }
      }
      if (!isAlone) throw new IllegalStateException("the side is not the only one");
      return best;
    }

    /** Each as {set of lines, set of points between}. */
    List<int[]> paths(int p, int q) {
      List<int[]> all = new ArrayList<>();
      follow(p, q, 1 << p, 0, all, 1 << p | 1 << q);
      return all;
    }

    private void follow(int at, int q, int met, int by, List<int[]> all, int ends) {
      for (int l = 0; l < lines.size(); l++) {
        if (!stands(l) || !lines.get(l).isOf(at)) continue;
        int to = lines.get(l).otherEnd(at);
        if (to == q) all.add(new int[] {by | 1 << l, met & ~ends});
        else if ((met >> to & 1) == 0) follow(to, q, met | 1 << to, by | 1 << l, all, ends);
      }
    }

    boolean canPack(List<int[]> paths, int from, int count, int lineSet, int pointSet, boolean arePointsOwn) {
      if (count == 0) return true;
      for (int k = from; k < paths.size(); k++) {
        int[] path = paths.get(k);
        if ((path[0] & lineSet) != 0 || arePointsOwn && (path[1] & pointSet) != 0) continue;
        if (canPack(paths, k + 1, count - 1, lineSet | path[0], pointSet | path[1], arePointsOwn)) return true;
      }
      return false;
    }

    /** All sets of so many lines that stand and have no circle. */
    long trees(List<Line> all) {
      if (points() == 0) return 0;
      return treesFrom(all, 0, points() - 1, new int[points()]);
    }

    /** The marks tell which points hang together by the lines that were taken. */
    private long treesFrom(List<Line> all, int from, int missing, int[] marks) {
      if (missing == 0) return 1;
      long count = 0;
      for (int l = from; l < all.size(); l++) {
        Line line = all.get(l);
        if (line.isCut) continue;
        int a = 1 << line.a | marks[line.a];
        int b = 1 << line.b | marks[line.b];
        if ((a & b) != 0) continue;
        int[] next = marks.clone();
        for (int p = 0; p < points(); p++) if (((a | b) >> p & 1) != 0) next[p] = a | b;
        count += treesFrom(all, l + 1, missing - 1, next);
      }
      return count;
    }

    long wouldLink(int p, int q) {
      List<Line> more = new ArrayList<>(lines);
      Line line = new Line();
      line.a = p;
      line.b = q;
      more.add(line);
      return trees(more);
    }

    /** The cheapest tree as a set of lines; NONE without a tree. */
    int cheapest() {
      if (points() == 0 || parts(0, 0) != 1) return NONE;
      int taken = 0;
      for (int cost = 1; cost <= 20; cost++) {
        for (int l = 0; l < lines.size(); l++) {
          if (!stands(l) || lines.get(l).cost != cost) continue;
          int[] group = groups(0, ~taken);
          if (group[lines.get(l).a] != group[lines.get(l).b]) taken |= 1 << l;
        }
      }
      return taken;
    }

    int costOf(int set) {
      int cost = 0;
      for (int l = 0; l < lines.size(); l++) if ((set >> l & 1) != 0) cost += lines.get(l).cost;
      return cost;
    }

    /** The first colouring with the fewest colours; the colours are one more than the greatest number. */
    int[] colouring() {
      for (int most = 0; ; most++) {
        int[] colour = new int[points()];
        if (paint(colour, 0, most)) return colour;
      }
    }

    private boolean paint(int[] colour, int p, int most) {
      if (p == points()) return true;
      for (int c = 0; c < most; c++) {
        boolean isFree = true;
        for (int q = 0; q < p; q++) isFree &= colour[q] != c || !areLinked(p, q);
        colour[p] = c;
        if (isFree && paint(colour, p + 1, most)) return true;
      }
      return false;
    }

    /** The face of each walk: {line, from the smaller point, from the greater one}. */
    int[][] faces() {
      int[][] face = new int[lines.size()][2];
      for (int[] both : face) java.util.Arrays.fill(both, NONE);
      int count = 0;
      for (int l = 0; l < lines.size(); l++) {
        for (int from = 0; from < 2; from++) {
          if (!stands(l) || face[l][from] != NONE) continue;
          int line = l;
          int start = from == 0 ? lines.get(l).a : lines.get(l).b;
          while (face[line][start == lines.get(line).a ? 0 : 1] == NONE) {
            face[line][start == lines.get(line).a ? 0 : 1] = count;
            int at = lines.get(line).otherEnd(start);
            line = behind(at, line);
            start = at;
          }
          count++;
        }
      }
      return face;
    }

    private int behind(int p, int line) {
      List<Integer> standing = new ArrayList<>();
      for (int l : orders.get(p)) if (stands(l)) standing.add(l);
      return standing.get((standing.indexOf(line) + 1) % standing.size());
    }

    int countFaces() {
      Set<Integer> met = new HashSet<>();
      for (int[] both : faces()) {
        for (int f : both) if (f != NONE) met.add(f);
      }
      int count = met.size();
      for (int p = 0; p < points(); p++) if (ofPoint(p, 1) == 0) count++;
      return count;
    }

    int wouldTurn(int p) {
      int best = NONE;
      int most = countFaces();
      for (int place = 0; place < orders.get(p).size(); place++) {
        List<Integer> kept = new ArrayList<>(orders.get(p));
        turn(p, place);
        int faces = countFaces();
        orders.set(p, kept);
        if (faces > most) {
          best = place;
          most = faces;
        }
      }
      return best;
    }

    String row(int p) {
      String s = "";
      for (int l : orders.get(p)) s += (stands(l) ? "-" : "x") + lines.get(l).otherEnd(p);
      return s.isEmpty() ? "." : s;
    }

    int ofPoint(int p, int what) {
      int count = 0;
      switch (what) {
        case 0:
          int[] group = groups(0, 0);
          for (int q = 0; q < group[p]; q++) if (group[q] == q) count++;
          return count;
        case 1:
          for (int l : orders.get(p)) if (stands(l)) count++;
          return count;
        case 2: return isCutPoint(p) ? 1 : 0;
        case 3:
          int[] block = blocks();
          Set<Integer> met = new HashSet<>();
          for (int l : orders.get(p)) if (stands(l)) met.add(block[l]);
          return met.size();
        case 4: return colouring()[p];
        case 5:
          for (int q = 0; q < points(); q++) if (areLinked(p, q)) count += 1 << q;
          return count;
        default: return orders.get(p).size();
      }
    }

    int ofLine(int l, int what) {
      switch (what) {
        case 0: return lines.get(l).a;
        case 1: return lines.get(l).b;
        case 2: return lines.get(l).cost;
        case 3: return stands(l) ? 1 : 0;
        case 4: return isBridge(l) ? 1 : 0;
        case 5: return blocks()[l];
        case 6: return cheapest() == NONE ? 0 : cheapest() >> l & 1;
        default: return faces()[l][what - 7];
      }
    }

    int net(int what) {
      int count = 0;
      switch (what) {
        case 0: return points();
        case 1: return lines.size();
        case 2:
          for (Line line : lines) if (!line.isCut) count++;
          return count;
        case 3: return parts(0, 0);
        case 4:
          for (int l = 0; l < lines.size(); l++) if (isBridge(l)) count++;
          return count;
        case 5:
          for (int p = 0; p < points(); p++) if (isCutPoint(p)) count++;
          return count;
        case 6:
          for (int b : blocks()) count = Math.max(count, b + 1);
          return count;
        case 7: return pairs().size();
        case 8: return twins().size();
        case 9: return cheapest() == NONE ? NONE : costOf(cheapest());
        case 10:
          for (int c : colouring()) count = Math.max(count, c + 1);
          return count;
        case 11: return countFaces();
        case 12: return (2 * net(3) - points() + net(2) - net(11)) / 2;
        case 13:
          for (int p = 0; p < points(); p++) {
            for (int q = 0; q < p; q++) count = Math.max(count, distance(p, q));
          }
          return count;
        default: return refused;
      }
    }

    int between(int p, int q, int what) {
      switch (what) {
        case 0: return ways(p, q);
        case 1: return Integer.bitCount(linesOut(side(p, q)));
        case 2: return distance(p, q);
        case 3: return gap(p, q);
        case 4: return side(p, q);
        default: return linesOut(side(p, q));
      }
    }

    long digest() {
      List<Long> all = new ArrayList<>();
      for (int what = 0; what <= 14; what++) all.add((long) net(what));
      for (int p = 0; p < points(); p++) {
        for (int what = 0; what <= 6; what++) all.add((long) ofPoint(p, what));
        all.add((long) wouldTurn(p));
        for (int q = p + 1; q < points(); q++) {
          for (int what = 0; what <= 5; what++) all.add((long) between(p, q, what));
        }
      }
      for (int l = 0; l < lines.size(); l++) {
        for (int what = 0; what <= 8; what++) all.add((long) ofLine(l, what));
      }
      for (int[] both : pairs()) for (int v : both) all.add((long) v);
      for (int[] both : twins()) for (int v : both) all.add((long) v);
      all.add(trees(lines));
      all.add(1L);
      long d = 7901;
      for (long v : all) d = d * 31 + v;
      return d;
    }
  }
}
