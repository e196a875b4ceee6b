/** A house of networks that fall apart: the document's face, and its parts as classes inside. */
public final class Twincuts {
  private static final int NONE = -1;
  private static final int MOST_POINTS = 8;
  private static final int MOST_LINES = 16;
  private static final int DEAREST = 20;

  private final Web web;
  private final Falls falls;
  private final Ways ways;
  private final Forest forest;
  private final Palette palette;
  private final Drawing drawing;
  private int refused;

  public Twincuts() {
    web = new Web();
    falls = new Falls(web);
    ways = new Ways(web);
    forest = new Forest(web);
    palette = new Palette(web);
    drawing = new Drawing(web);
    refused = 0;
  }

  public int point() throws IllegalStateException {
    if (web.points >= MOST_POINTS) {
      throw new IllegalStateException("there are 8 points");
    }
    int point = web.addPoint();
    learnAll();
    return point;
  }

  public int line(int one, int other, int cost)
      throws IndexOutOfBoundsException, IllegalArgumentException, IllegalStateException {
    demandPoint(one);
    demandPoint(other);
    demandUnlike(one, other);
    demandCost(cost);
    if (web.lines >= MOST_LINES) {
      throw new IllegalStateException("there are 16 lines");
    }
    int line = web.addLine(Math.min(one, other), Math.max(one, other), cost);
    drawing.append(one, line);
    drawing.append(other, line);
    learnAll();
    return line;
  }

  public int cut(int line, boolean is) throws IndexOutOfBoundsException {
    demandLine(line);
    web.setCut(line, is);
    learnAll();
    return falls.parts;
  }

  public int price(int line, int cost) throws IndexOutOfBoundsException, IllegalArgumentException {
    demandLine(line);
    demandCost(cost);
    int before = web.cost[line];
    web.cost[line] = cost;
    forest.learn();
    return before;
  }

  public int turn(int point, int place) throws IndexOutOfBoundsException {
    demandPoint(point);
    demandPlace(point, place);
    drawing.swap(point, place);
    drawing.learn();
    return drawing.allFaces();
  }

  public int knock() {
    refused++;
    return refused;
  }

  public int ofPoint(int point, int what)
      throws IndexOutOfBoundsException, IllegalArgumentException {
    demandPoint(point);
    demandWhat(what, 6);
    switch (what) {
      case 0:
        return falls.part[point];
      case 1:
        return Integer.bitCount(web.standingAt(point));
      case 2:
        return has(falls.cutPointSet, point) ? 1 : 0;
      case 3:
        return falls.blocksAt(point);
      case 4:
        return palette.colour[point];
      case 5:
        return web.linkedWith(point);
      default:
        return drawing.length[point];
    }
  }

  public int ofLine(int line, int what) throws IndexOutOfBoundsException, IllegalArgumentException {
    demandLine(line);
    demandWhat(what, 8);
    switch (what) {
      case 0:
        return web.smaller[line];
      case 1:
        return web.greater[line];
      case 2:
        return web.cost[line];
      case 3:
        return has(web.standing, line) ? 1 : 0;
      case 4:
        return has(falls.bridgeSet, line) ? 1 : 0;
      case 5:
        return falls.block[line];
      case 6:
        return has(forest.cheapestSet, line) ? 1 : 0;
      case 7:
        return drawing.face[2 * line];
      default:
        return drawing.face[2 * line + 1];
    }
  }

  public int net(int what) throws IllegalArgumentException {
    demandWhat(what, 14);
    switch (what) {
      case 0:
        return web.points;
      case 1:
        return web.lines;
      case 2:
        return Integer.bitCount(web.standing);
      case 3:
        return falls.parts;
      case 4:
        return Integer.bitCount(falls.bridgeSet);
      case 5:
        return Integer.bitCount(falls.cutPointSet);
      case 6:
        return falls.blocks;
      case 7:
        return falls.pairs;
      case 8:
        return falls.twins;
      case 9:
        return forest.cheapestCost;
      case 10:
        return palette.colours;
      case 11:
        return drawing.allFaces();
      case 12:
        return handles();
      case 13:
        return web.greatestDistance();
      default:
        return refused;
    }
  }

  public int pair(int nth, boolean isGreater) throws IllegalArgumentException {
    demandNth(nth);
    return falls.pairPoint(nth, isGreater);
  }

  public int twin(int nth, boolean isGreater) throws IllegalArgumentException {
    demandNth(nth);
    return falls.twinLine(nth, isGreater);
  }

  public int between(int one, int other, int what)
      throws IndexOutOfBoundsException, IllegalArgumentException {
    demandPoint(one);
    demandPoint(other);
    demandUnlike(one, other);
    demandWhat(what, 5);
    switch (what) {
      case 0:
        return ways.countWays(one, other);
      case 1:
        return ways.countLineWays(one, other);
      case 2:
        return web.distance(one, other);
      case 3:
        return ways.gap(one, other);
      case 4:
        return ways.side(one, other);
      default:
        return web.linesOutOf(ways.side(one, other));
    }
  }

  public long trees() {
    return forest.countTrees();
  }

  public int order(int point, int place) throws IndexOutOfBoundsException {
    demandPoint(point);
    demandPlace(point, place);
    return drawing.order[point][place];
  }

  public String row(int point) throws IndexOutOfBoundsException {
    demandPoint(point);
    return drawing.written(point);
  }

  public int without(int points, int lines) throws IllegalArgumentException {
    if (points >> web.points != 0) {
      throw new IllegalArgumentException("no set of points that there are");
    }
    if (lines >> web.lines != 0) {
      throw new IllegalArgumentException("no set of lines that there are");
    }
    return web.countParts(web.allPoints() & ~points, web.standing & ~lines);
  }

  public long wouldLink(int one, int other)
      throws IndexOutOfBoundsException, IllegalArgumentException {
    demandPoint(one);
    demandPoint(other);
    demandUnlike(one, other);
    return forest.countTreesLinking(one, other);
  }

  public int wouldTurn(int point) throws IndexOutOfBoundsException {
    demandPoint(point);
    return drawing.bestPlace(point);
  }

  public boolean isSound() {
    return areAllWaysSound() && handles() >= 0 && areTreesSound() && isColouringSound()
        && areBlocksSound();
  }

  public long digest() {
    long d = 7901;
    for (int what = 0; what <= 14; what++) {
      d = mixed(d, net(what));
    }
    for (int point = 0; point < web.points; point++) {
      d = mixedPoint(d, point);
    }
    for (int line = 0; line < web.lines; line++) {
      for (int what = 0; what <= 8; what++) {
        d = mixed(d, ofLine(line, what));
      }
    }
    for (int nth = 0; nth < falls.pairs; nth++) {
      d = mixed(mixed(d, pair(nth, false)), pair(nth, true));
    }
    for (int nth = 0; nth < falls.twins; nth++) {
      d = mixed(mixed(d, twin(nth, false)), twin(nth, true));
    }
    d = mixed(d, trees());
    return mixed(d, isSound() ? 1 : 0);
  }

  private void learnAll() {
    falls.learn();
    forest.learn();
    palette.learn();
    drawing.learn();
  }

  private long mixedPoint(long before, int point) {
    long d = before;
    for (int what = 0; what <= 6; what++) {
      d = mixed(d, ofPoint(point, what));
    }
    d = mixed(d, wouldTurn(point));
    for (int other = point + 1; other < web.points; other++) {
      for (int what = 0; what <= 5; what++) {
        d = mixed(d, between(point, other, what));
      }
    }
    return d;
  }

  private static long mixed(long d, long v) {
    return d * 31 + v;
  }

  private int handles() {
    int twice = 2 * falls.parts - web.points + Integer.bitCount(web.standing) - drawing.allFaces();
    return twice / 2;
  }

  private boolean areAllWaysSound() {
    for (int one = 0; one < web.points; one++) {
      for (int other = one + 1; other < web.points; other++) {
        if (!areWaysSound(one, other)) {
          return false;
        }
      }
    }
    return true;
  }

  private boolean areWaysSound(int one, int other) {
    int apart = ways.countWays(one, other);
    int byLines = ways.countLineWays(one, other);
    int gap = ways.gap(one, other);
    if (gap != NONE && Integer.bitCount(gap) != apart) {
      return false;
    }
    int goOut = web.linesOutOf(ways.side(one, other));
    return byLines == Integer.bitCount(goOut) && byLines >= apart;
  }

  private boolean areTreesSound() {
    long trees = forest.countTrees();
    if (falls.parts == 1) {
      return trees > 0;
    }
    return falls.parts == 0 || trees == 0;
  }

  private boolean isColouringSound() {
    for (int line = 0; line < web.lines; line++) {
      boolean isSame = palette.colour[web.smaller[line]] == palette.colour[web.greater[line]];
      if (has(web.standing, line) && isSame) {
        return false;
      }
    }
    return true;
  }

  private boolean areBlocksSound() {
    for (int line = 0; line < web.lines; line++) {
      boolean isInBlock = falls.block[line] >= 0 && falls.block[line] < falls.blocks;
      if (isInBlock != has(web.standing, line)) {
        return false;
      }
      if (has(falls.bridgeSet, line) && !falls.isAloneInBlock(line)) {
        return false;
      }
    }
    return true;
  }

  private void demandPoint(int point) throws IndexOutOfBoundsException {
    if (point < 0 || point >= web.points) {
      throw new IndexOutOfBoundsException("no such point");
    }
  }

  private void demandLine(int line) throws IndexOutOfBoundsException {
    if (line < 0 || line >= web.lines) {
      throw new IndexOutOfBoundsException("no such line");
    }
  }

  private void demandPlace(int point, int place) throws IndexOutOfBoundsException {
    if (place < 0 || place >= drawing.length[point]) {
      throw new IndexOutOfBoundsException("no such place");
    }
  }

  private static void demandUnlike(int one, int other) throws IllegalArgumentException {
    if (one == other) {
      throw new IllegalArgumentException("both points are the same");
    }
  }

  private static void demandCost(int cost) throws IllegalArgumentException {
    if (cost < 1 || cost > DEAREST) {
      throw new IllegalArgumentException("the cost is not 1 to 20");
    }
  }

  private static void demandWhat(int what, int last) throws IllegalArgumentException {
    if (what < 0 || what > last) {
      throw new IllegalArgumentException("no such question");
    }
  }

  private static void demandNth(int nth) throws IllegalArgumentException {
    if (nth < 0) {
      throw new IllegalArgumentException("nth is below 0");
    }
  }

  private static boolean has(int set, int number) {
    return (set >> number & 1) != 0;
  }

  /** Points and lines, and how far one comes by them. Callers hand in numbers that there are. */
  private static final class Web {
    private int points = 0;
    private int lines = 0;
    private int standing = 0;
    private final int[] smaller = new int[MOST_LINES];
    private final int[] greater = new int[MOST_LINES];
    private final int[] cost = new int[MOST_LINES];
    private final int[] ends = new int[MOST_LINES];
    private final int[] linesAt = new int[MOST_POINTS];

    int addPoint() {
      points++;
      return points - 1;
    }

    int addLine(int small, int great, int itsCost) {
      int line = lines;
      smaller[line] = small;
      greater[line] = great;
      cost[line] = itsCost;
      ends[line] = 1 << small | 1 << great;
      linesAt[small] |= 1 << line;
      linesAt[great] |= 1 << line;
      standing |= 1 << line;
      lines++;
      return line;
    }

    void setCut(int line, boolean is) {
      standing = is ? standing & ~(1 << line) : standing | 1 << line;
    }

    int allPoints() {
      return (1 << points) - 1;
    }

    int standingAt(int point) {
      return linesAt[point] & standing;
    }

    int otherEnd(int line, int point) {
      return smaller[line] == point ? greater[line] : smaller[line];
    }

    int linkedWith(int point) {
      int found = 0;
      for (int line = 0; line < lines; line++) {
        if (has(linesAt[point] & standing, line)) {
          found |= ends[line];
        }
      }
      return found & ~(1 << point);
    }

    /** Where one comes to from a point, within a set of points and by a set of lines. */
    int reach(int start, int within, int by) {
      int met = 1 << start;
      for (int round = 0; round < MOST_POINTS; round++) {
        int before = met;
        for (int line = 0; line < lines; line++) {
          boolean isBeside = (by >> line & 1) != 0 && (ends[line] & met) != 0;
          if (isBeside && (ends[line] & ~within) == 0) {
            met |= ends[line];
          }
        }
        if (met == before) {
          return met;
        }
      }
      return met;
    }

    int countParts(int within, int by) {
      int parts = 0;
      int met = 0;
      for (int point = 0; point < points; point++) {
        if (has(within & ~met, point)) {
          met |= reach(point, within, by);
          parts++;
        }
      }
      return parts;
    }

    int distance(int one, int other) {
      int met = 1 << one;
      for (int steps = 0; steps < MOST_POINTS; steps++) {
        if (has(met, other)) {
          return steps;
        }
        met |= linkedWithAny(met);
      }
      return NONE;
    }

    private int linkedWithAny(int set) {
      int found = 0;
      for (int point = 0; point < points; point++) {
        if (has(set, point)) {
          found |= linkedWith(point);
        }
      }
      return found;
    }

    int greatestDistance() {
      int greatest = 0;
      for (int one = 0; one < points; one++) {
        for (int other = one + 1; other < points; other++) {
          greatest = Math.max(greatest, distance(one, other));
        }
      }
      return greatest;
    }

    /** A line of two points of the set is met twice, which takes it out again. */
    int linesOutOf(int set) {
      int out = 0;
      for (int point = 0; point < points; point++) {
        if (has(set, point)) {
          out ^= standingAt(point);
        }
      }
      return out;
    }
  }

  /** What falls apart by one, and by two. */
  private static final class Falls {
    private static final int MOST_PAIRS = MOST_POINTS * (MOST_POINTS - 1) / 2;
    private static final int MOST_TWINS = MOST_LINES * (MOST_LINES - 1) / 2;

    private final Web web;
    private int parts = 0;
    private int bridgeSet = 0;
    private int cutPointSet = 0;
    private int blocks = 0;
    private int pairs = 0;
    private int twins = 0;
    private final int[] part = new int[MOST_POINTS];
    /** The points of the part of each point. */
    private final int[] partSet = new int[MOST_POINTS];
    /** While blocks are joined: the smallest line that is known to be of the same block. */
    private final int[] first = new int[MOST_LINES];
    private final int[] block = new int[MOST_LINES];
    private final int[] smallerOfPair = new int[MOST_PAIRS];
    private final int[] greaterOfPair = new int[MOST_PAIRS];
    private final int[] smallerOfTwins = new int[MOST_TWINS];
    private final int[] greaterOfTwins = new int[MOST_TWINS];

    Falls(Web itsWeb) {
      web = itsWeb;
    }

    /** To be called after each change of points and lines. */
    void learn() {
      numberParts();
      findBridges();
      findCutPoints();
      joinBlocks();
      numberBlocks();
      findPairs();
      findTwins();
    }

    int blocksAt(int point) {
      int met = 0;
      for (int line = 0; line < web.lines; line++) {
        if (has(web.standingAt(point), line)) {
          met |= 1 << block[line];
        }
      }
      return Integer.bitCount(met);
    }

    boolean isAloneInBlock(int line) {
      for (int other = 0; other < web.lines; other++) {
        if (other != line && block[other] == block[line]) {
          return false;
        }
      }
      return true;
    }

    int pairPoint(int nth, boolean isGreater) {
      if (nth < 0 || nth >= pairs) {
        return NONE;
      }
      return isGreater ? greaterOfPair[nth] : smallerOfPair[nth];
    }

    int twinLine(int nth, boolean isGreater) {
      if (nth < 0 || nth >= twins) {
        return NONE;
      }
      return isGreater ? greaterOfTwins[nth] : smallerOfTwins[nth];
    }

    private void numberParts() {
      parts = 0;
      int met = 0;
      for (int point = 0; point < web.points; point++) {
        if (!has(met, point)) {
          int set = web.reach(point, web.allPoints(), web.standing);
          putInPart(set);
          met |= set;
          parts++;
        }
      }
    }

    private void putInPart(int set) {
      for (int point = 0; point < web.points; point++) {
        if (has(set, point)) {
          part[point] = parts;
          partSet[point] = set;
        }
      }
    }

    private void findBridges() {
      bridgeSet = 0;
      for (int line = 0; line < web.lines; line++) {
        int rest = web.standing & ~(1 << line);
        if (has(web.standing, line) && web.countParts(web.allPoints(), rest) > parts) {
          bridgeSet |= 1 << line;
        }
      }
    }

    private void findCutPoints() {
      cutPointSet = 0;
      for (int point = 0; point < web.points; point++) {
        if (web.countParts(partSet[point] & ~(1 << point), web.standing) > 1) {
          cutPointSet |= 1 << point;
        }
      }
    }

    /**
     * Two lines of a point are on a circle, if one can come from the other end of one to that of
     * the other without the point; and lines of one block hang together by such steps.
     */
    private void joinBlocks() {
      for (int line = 0; line < web.lines; line++) {
        first[line] = line;
      }
      for (int point = 0; point < web.points; point++) {
        for (int line = 0; line < web.lines; line++) {
          if (has(web.standingAt(point), line)) {
            joinAtPoint(point, line);
          }
        }
      }
    }

    private void joinAtPoint(int point, int line) {
      int rest = web.allPoints() & ~(1 << point);
      int reached = web.reach(web.otherEnd(line, point), rest, web.standing);
      for (int other = line + 1; other < web.lines; other++) {
        if (has(web.standingAt(point), other) && has(reached, web.otherEnd(other, point))) {
          join(first[line], first[other]);
        }
      }
    }

    private void join(int one, int other) {
      int smallest = Math.min(one, other);
      for (int line = 0; line < web.lines; line++) {
        if (first[line] == one || first[line] == other) {
          first[line] = smallest;
        }
      }
    }

    private void numberBlocks() {
      blocks = 0;
      for (int line = 0; line < web.lines; line++) {
        if (!has(web.standing, line)) {
          block[line] = NONE;
        } else if (first[line] == line) {
          block[line] = blocks;
          blocks++;
        } else {
          block[line] = block[first[line]];
        }
      }
    }

    private void findPairs() {
      pairs = 0;
      for (int one = 0; one < web.points; one++) {
        for (int other = one + 1; other < web.points; other++) {
          if (isPair(one, other) && pairs < MOST_PAIRS) {
            smallerOfPair[pairs] = one;
            greaterOfPair[pairs] = other;
            pairs++;
          }
        }
      }
    }

    private boolean isPair(int one, int other) {
      int both = 1 << one | 1 << other;
      return part[one] == part[other] && (cutPointSet & both) == 0
          && web.countParts(partSet[one] & ~both, web.standing) > 1;
    }

    private void findTwins() {
      twins = 0;
      for (int one = 0; one < web.lines; one++) {
        for (int other = one + 1; other < web.lines; other++) {
          if (areTwins(one, other) && twins < MOST_TWINS) {
            smallerOfTwins[twins] = one;
            greaterOfTwins[twins] = other;
            twins++;
          }
        }
      }
    }

    private boolean areTwins(int one, int other) {
      int both = 1 << one | 1 << other;
      return (web.standing & ~bridgeSet & both) == both
          && web.countParts(web.allPoints(), web.standing & ~both) > parts;
    }
  }

  /** How many ways there are from one point to another one, and what parts them. */
  private static final class Ways {
    /** For ways each point is two nodes: one comes to the first, and goes on from the second. */
    private static final int NODES = 2 * MOST_POINTS;
    private static final int NO_BOUND = MOST_LINES + 1;

    private final Web web;
    /** How much more can go from one node to another one. */
    private final int[][] room = new int[NODES][NODES];
    private final int[] cameFrom = new int[NODES];
    private final int[] queue = new int[NODES];

    Ways(Web itsWeb) {
      web = itsWeb;
    }

    int countWays(int one, int other) {
      clearRoom();
      for (int point = 0; point < web.points; point++) {
        boolean isEnd = point == one || point == other;
        room[point][point + MOST_POINTS] = isEnd ? NO_BOUND : 1;
      }
      for (int line = 0; line < web.lines; line++) {
        if (has(web.standing, line)) {
          room[web.smaller[line] + MOST_POINTS][web.greater[line]]++;
          room[web.greater[line] + MOST_POINTS][web.smaller[line]]++;
        }
      }
      return countFlow(one, other);
    }

    int countLineWays(int one, int other) {
      clearRoom();
      for (int line = 0; line < web.lines; line++) {
        if (has(web.standing, line)) {
          room[web.smaller[line]][web.greater[line]]++;
          room[web.greater[line]][web.smaller[line]]++;
        }
      }
      return countFlow(one, other);
    }

    private void clearRoom() {
      for (int from = 0; from < NODES; from++) {
        for (int to = 0; to < NODES; to++) {
          room[from][to] = 0;
        }
      }
    }

    /** Each way that is found gives room for turning back on it, so that none is in vain. */
    private int countFlow(int source, int target) {
      int flow = 0;
      for (int round = 0; round < MOST_LINES; round++) {
        if (!findsWay(source, target)) {
          return flow;
        }
        fillWay(source, target);
        flow++;
      }
      return flow;
    }

    private boolean findsWay(int source, int target) {
      for (int node = 0; node < NODES; node++) {
        cameFrom[node] = NONE;
      }
      cameFrom[source] = source;
      queue[0] = source;
      int last = 1;
      for (int next = 0; next < last && next < NODES; next++) {
        int from = queue[next];
        for (int to = 0; to < NODES; to++) {
          if (room[from][to] > 0 && cameFrom[to] == NONE && last < NODES) {
            cameFrom[to] = from;
            queue[last] = to;
            last++;
          }
        }
      }
      return cameFrom[target] != NONE;
    }

    private void fillWay(int source, int target) {
      int to = target;
      for (int step = 0; step < NODES && to != source && cameFrom[to] != NONE; step++) {
        int from = cameFrom[to];
        room[from][to]--;
        room[to][from]++;
        to = from;
      }
    }

    /** Sets come by rising numbers, so the first one of the fewest points is the smallest. */
    int gap(int one, int other) {
      if (has(web.linkedWith(one), other)) {
        return NONE;
      }
      int ends = 1 << one | 1 << other;
      int best = web.allPoints() & ~ends;
      for (int set = 0; set <= web.allPoints(); set++) {
        boolean isFewer = Integer.bitCount(set) < Integer.bitCount(best);
        if ((set & ends) == 0 && isFewer && isApartWithout(one, other, set)) {
          best = set;
        }
      }
      return best;
    }

    private boolean isApartWithout(int one, int other, int points) {
      return !has(web.reach(one, web.allPoints() & ~points, web.standing), other);
    }

    int side(int one, int other) {
      int best = 1 << one;
      int fewest = Integer.bitCount(web.linesOutOf(best));
      for (int set = 0; set <= web.allPoints(); set++) {
        if (has(set, one) && !has(set, other)) {
          int lines = Integer.bitCount(web.linesOutOf(set));
          boolean isSmaller = Integer.bitCount(set) < Integer.bitCount(best);
          if (lines < fewest || lines == fewest && isSmaller) {
            best = set;
            fewest = lines;
          }
        }
      }
      return best;
    }
  }

  /** How many trees there are, and the cheapest one. */
  private static final class Forest {
    private final Web web;
    private final long[][] table = new long[MOST_POINTS][MOST_POINTS];
    private int cheapestSet = 0;
    private int cheapestCost = NONE;
    /** While the cheapest tree is made: the points to which the taken lines come from each one. */
    private final int[] joined = new int[MOST_POINTS];

    Forest(Web itsWeb) {
      web = itsWeb;
    }

    long countTrees() {
      fillTable();
      return countByTable();
    }

    long countTreesLinking(int one, int other) {
      fillTable();
      addToTable(one, other);
      return countByTable();
    }

    private void fillTable() {
      for (int one = 0; one < MOST_POINTS; one++) {
        for (int other = 0; other < MOST_POINTS; other++) {
          table[one][other] = 0;
        }
      }
      for (int line = 0; line < web.lines; line++) {
        if (has(web.standing, line)) {
          addToTable(web.smaller[line], web.greater[line]);
        }
      }
    }

    private void addToTable(int one, int other) {
      table[one][one]++;
      table[other][other]++;
      table[one][other]--;
      table[other][one]--;
    }

    /**
     * The determinant of the table without its last row and column (Kirchhoff), by steps that
     * stay in whole numbers (Bareiss). A pivot of 0 tells of points that do not hang on the rest.
     */
    private long countByTable() {
      if (web.points == 0) {
        return 0;
      }
      long before = 1;
      for (int step = 0; step < web.points - 1; step++) {
        long pivot = table[step][step];
        if (pivot == 0 || before == 0) {
          return 0;
        }
        for (int row = step + 1; row < web.points - 1; row++) {
          for (int column = step + 1; column < web.points - 1; column++) {
            long product = table[row][column] * pivot - table[row][step] * table[step][column];
            table[row][column] = product / before;
          }
        }
        before = pivot;
      }
      return before;
    }

    /** To be called after each change of points, lines and costs. */
    void learn() {
      cheapestSet = 0;
      cheapestCost = NONE;
      if (web.countParts(web.allPoints(), web.standing) == 1) {
        takeCheapest();
      }
    }

    private void takeCheapest() {
      cheapestCost = 0;
      for (int point = 0; point < web.points; point++) {
        joined[point] = 1 << point;
      }
      for (int cost = 1; cost <= DEAREST; cost++) {
        for (int line = 0; line < web.lines; line++) {
          if (has(web.standing, line) && web.cost[line] == cost) {
            takeIfNew(line);
          }
        }
      }
    }

    private void takeIfNew(int line) {
      int one = joined[web.smaller[line]];
      int other = joined[web.greater[line]];
      if (one == other) {
        return;
      }
      for (int point = 0; point < web.points; point++) {
        if (has(one | other, point)) {
          joined[point] = one | other;
        }
      }
      cheapestSet |= 1 << line;
      cheapestCost += web.cost[line];
    }
  }

  /** Colours, so that linked points have unlike ones. */
  private static final class Palette {
    private final Web web;
    private int colours = 0;
    private final int[] colour = new int[MOST_POINTS];

    Palette(Web itsWeb) {
      web = itsWeb;
    }

    /** To be called after each change of points and lines. */
    void learn() {
      for (int most = 0; most <= web.points; most++) {
        if (paintsFrom(0, 0, most)) {
          colours = most;
          return;
        }
      }
    }

    /**
     * The first colouring of all needs no colour before all smaller ones were used: changing two
     * colours would make an earlier one. The point is the depth, and stays below 9.
     */
    private boolean paintsFrom(int point, int used, int most) {
      if (point >= web.points) {
        return true;
      }
      int linked = web.linkedWith(point);
      for (int number = 0; number <= used && number < most; number++) {
        if (isFree(point, number, linked)) {
          colour[point] = number;
          if (paintsFrom(point + 1, Math.max(used, number + 1), most)) {
            return true;
          }
        }
      }
      return false;
    }

    private boolean isFree(int point, int number, int linked) {
      for (int other = 0; other < point; other++) {
        if (has(linked, other) && colour[other] == number) {
          return false;
        }
      }
      return true;
    }
  }

  /** The orders of lines about points, and the faces that are walked by them. */
  private static final class Drawing {
    /** A walk of a line has twice the number of the line, and 1 more from the greater point. */
    private static final int WALKS = 2 * MOST_LINES;

    private final Web web;
    private final int[][] order = new int[MOST_POINTS][MOST_LINES];
    private final int[] length = new int[MOST_POINTS];
    private int walked = 0;
    private final int[] face = new int[WALKS];

    Drawing(Web itsWeb) {
      web = itsWeb;
    }

    void append(int point, int line) {
      if (length[point] < MOST_LINES) {
        order[point][length[point]] = line;
        length[point]++;
      }
    }

    void swap(int point, int place) {
      int next = placeBehind(point, place);
      int line = order[point][place];
      order[point][place] = order[point][next];
      order[point][next] = line;
    }

    String written(int point) {
      StringBuilder text = new StringBuilder();
      for (int place = 0; place < length[point]; place++) {
        int line = order[point][place];
        text.append(has(web.standing, line) ? '-' : 'x');
        text.append(web.otherEnd(line, point));
      }
      if (length[point] == 0) {
        text.append('.');
      }
      return text.toString();
    }

    /** Walks all faces; to be called after each change of points, lines and orders. */
    void learn() {
      walked = 0;
      for (int walk = 0; walk < WALKS; walk++) {
        face[walk] = NONE;
      }
      for (int first = 0; first < 2 * web.lines; first++) {
        if (has(web.standing, first / 2) && face[first] == NONE) {
          int walk = first;
          for (int step = 0; step < WALKS && face[walk] == NONE; step++) {
            face[walk] = walked;
            walk = walkBehind(walk);
          }
          walked++;
        }
      }
    }

    private int walkBehind(int walk) {
      int line = walk / 2;
      int point = walk % 2 == 0 ? web.greater[line] : web.smaller[line];
      int place = placeOf(point, line);
      for (int step = 0; step < length[point]; step++) {
        place = placeBehind(point, place);
        int next = order[point][place];
        if (has(web.standing, next)) {
          return 2 * next + (web.smaller[next] == point ? 0 : 1);
        }
      }
      return walk;
    }

    private int placeOf(int point, int line) {
      for (int place = 0; place < length[point]; place++) {
        if (order[point][place] == line) {
          return place;
        }
      }
      return 0;
    }

    private int placeBehind(int point, int place) {
      return place + 1 < length[point] ? place + 1 : 0;
    }

    /** With those of points without lines that stand. */
    int allFaces() {
      int faces = walked;
      for (int point = 0; point < web.points; point++) {
        if (web.standingAt(point) == 0) {
          faces++;
        }
      }
      return faces;
    }

    int bestPlace(int point) {
      int best = NONE;
      int most = allFaces();
      for (int place = 0; place < length[point]; place++) {
        swap(point, place);
        learn();
        swap(point, place);
        if (allFaces() > most) {
          most = allFaces();
          best = place;
        }
      }
      learn();
      return best;
    }
  }
}
