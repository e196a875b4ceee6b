import java.util.ArrayList;
import java.util.List;

/**
 * Each call with arguments at, beside and far beyond each bound, on nets from empty to full: it throws just
 * the exception that the document names, the first one where several apply, otherwise none; and a call that
 * throws has changed nothing.
 */
public final class RefusedCalls {
  private static final String INDEX = "java.lang.IndexOutOfBoundsException";
  private static final String ARGUMENT = "java.lang.IllegalArgumentException";
  private static final String STATE = "java.lang.IllegalStateException";
  private static final String NOTHING = "nothing";
  /** So many refused calls on one object, which is looked at then. */
  private static final int AT_ONCE = 60;
  private static final int[] NUMBERS = {
    Integer.MIN_VALUE, Integer.MIN_VALUE + 1, -65536, -256, -32, -2, -1, 0, 1, 2, 3, 4, 5, 6, 7, 8, 9, 14, 15, 16, 17, 19, 20, 21, 31,
    32, 33, 63, 64, 127, 128, 255, 256, 257, 32767, 32768, 65535, 65536, 65537, 1 << 24, 1 << 30, Integer.MAX_VALUE - 1,
    Integer.MAX_VALUE};
  private static final int[] FEW = {Integer.MIN_VALUE, -1, 0, 1, 2, 6, 7, 8, 256, Integer.MAX_VALUE};
  private static final int[] BOUNDS = {Integer.MIN_VALUE, -1, 0, 1, 5, 6, 20, 21, Integer.MAX_VALUE};
  private static final String[] CALLS = {
    "point", "line", "cut", "price", "turn", "ofPoint", "ofLine", "net", "pair", "twin", "between", "order", "row", "without",
    "wouldLink", "wouldTurn"};
  private static final int NETS = 10;

  private static long refused = 0;
  private static long taken = 0;
  private static int wrong = 0;

  public static void main(String[] args) {
    for (int net = 0; net < NETS; net++) {
      for (String name : CALLS) tryAll(net, name);
    }
    refusedCallsLeaveNoTrace();
    System.out.println(refused + " calls were refused, " + taken + " were taken, " + wrong + " were wrong");
    if (wrong != 0) System.exit(1);
  }

  // ---- a call

  private static final class Call {
    final String name;
    final int a;
    final int b;
    final int c;

    Call(String itsName, int itsA, int itsB, int itsC) {
      name = itsName;
      a = itsA;
      b = itsB;
      c = itsC;
    }

    @Override
    public String toString() {
      return name + "(" + a + ", " + b + ", " + c + ")";
    }

    /** What it throws, by the document: each clause in the order in which it is named. */
    String due(int points, int lines, int[] places) {
      boolean isA = a >= 0 && a < points;
      boolean isB = b >= 0 && b < points;
      boolean isLine = a >= 0 && a < lines;
      switch (name) {
        case "point": return points == 8 ? STATE : NOTHING;
        case "line":
          if (!isA || !isB) return INDEX;
          if (a == b || c < 1 || c > 20) return ARGUMENT;
          return lines == 16 ? STATE : NOTHING;
        case "cut": return isLine ? NOTHING : INDEX;
        case "price": return !isLine ? INDEX : b < 1 || b > 20 ? ARGUMENT : NOTHING;
        case "turn": case "order": return isA && b >= 0 && b < places[a] ? NOTHING : INDEX;
        case "ofPoint": return !isA ? INDEX : b < 0 || b > 6 ? ARGUMENT : NOTHING;
        case "ofLine": return !isLine ? INDEX : b < 0 || b > 8 ? ARGUMENT : NOTHING;
        case "net": return a < 0 || a > 14 ? ARGUMENT : NOTHING;
        case "pair": case "twin": return a < 0 ? ARGUMENT : NOTHING;
        case "between": return !isA || !isB ? INDEX : a == b || c < 0 || c > 5 ? ARGUMENT : NOTHING;
        case "row": case "wouldTurn": return isA ? NOTHING : INDEX;
        case "without": return isSetOf(a, points) && isSetOf(b, lines) ? NOTHING : ARGUMENT;
        default: return !isA || !isB ? INDEX : a == b ? ARGUMENT : NOTHING;
      }
    }

    private static boolean isSetOf(int set, int count) {
      return set >= 0 && set < 1 << count;
    }

    String thrownBy(Twincuts x) {
      try {
        run(x);
        return NOTHING;
      } catch (RuntimeException e) {
        return e.getClass().getName();
      }
    }

    private void run(Twincuts x) {
      switch (name) {
        case "point": x.point(); break;
        case "line": x.line(a, b, c); break;
        case "cut": x.cut(a, b % 2 == 0); break;
        case "price": x.price(a, b); break;
        case "turn": x.turn(a, b); break;
        case "ofPoint": x.ofPoint(a, b); break;
        case "ofLine": x.ofLine(a, b); break;
        case "net": x.net(a); break;
        case "pair": x.pair(a, b % 2 == 0); break;
        case "twin": x.twin(a, b % 2 == 0); break;
        case "between": x.between(a, b, c); break;
        case "order": x.order(a, b); break;
        case "row": x.row(a); break;
        case "without": x.without(a, b); break;
        case "wouldLink": x.wouldLink(a, b); break;
        default: x.wouldTurn(a);
      }
    }
  }

  private static List<Call> callsOf(String name) {
    List<Call> all = new ArrayList<>();
    switch (name) {
      case "point":
        all.add(new Call(name, 0, 0, 0));
        break;
      case "line": case "between":
        for (int a : FEW) for (int b : FEW) for (int c : BOUNDS) all.add(new Call(name, a, b, c));
        break;
      case "net": case "row": case "wouldTurn":
        for (int a : NUMBERS) all.add(new Call(name, a, 0, 0));
        break;
      default:
        for (int a : NUMBERS) for (int b : NUMBERS) all.add(new Call(name, a, b, 0));
    }
    return all;
  }

  // ---- all calls of a name

  private static void tryAll(int net, String name) {
    Twincuts untouched = made(net);
    int points = untouched.net(0);
    int lines = untouched.net(1);
    int[] places = new int[points];
    for (int p = 0; p < points; p++) places[p] = untouched.ofPoint(p, 6);
    String before = shown(untouched);
    List<Call> refusedOnes = new ArrayList<>();
    for (Call call : callsOf(name)) {
      String due = call.due(points, lines, places);
      if (due.equals(NOTHING)) {
        taken++;
        check("net " + net + " " + call, call.thrownBy(made(net)), NOTHING);
      } else {
        refusedOnes.add(call);
      }
    }
    for (int from = 0; from < refusedOnes.size(); from += AT_ONCE) {
      List<Call> some = refusedOnes.subList(from, Math.min(refusedOnes.size(), from + AT_ONCE));
      Twincuts x = made(net);
      for (Call call : some) {
        refused++;
        check("net " + net + " " + call, call.thrownBy(x), call.due(points, lines, places));
      }
      if (!shown(x).equals(before)) tellChanges(net, some, before);
    }
  }

  private static void tellChanges(int net, List<Call> calls, String before) {
    for (Call call : calls) {
      Twincuts x = made(net);
      call.thrownBy(x);
      check("net " + net + " behind " + call, shown(x), before);
    }
  }

  /** From empty to full; none is dearer than 60 calls. */
  private static Twincuts made(int net) {
    int[] points = {0, 1, 2, 2, 2, 3, 7, 8, 8, 8};
    int[] lines = {0, 0, 0, 1, 16, 2, 15, 0, 15, 16};
    Twincuts x = new Twincuts();
    for (int p = 0; p < points[net]; p++) x.point();
    for (int l = 0; l < lines[net]; l++) {
      int one = l % points[net];
      int step = 1 + l / points[net] % (points[net] - 1);
      x.line(one, (one + step) % points[net], 1 + l);
    }
    if (net % 2 == 1) {
      for (int l = 0; l < lines[net]; l += 3) x.cut(l, true);
      for (int p = 0; p < points[net] && lines[net] >= points[net]; p++) x.turn(p, 0);
      x.knock();
    }
    return x;
  }

  // ---- two objects, of which one hears refused calls all the time

  private static void refusedCallsLeaveNoTrace() {
    Twincuts calm = new Twincuts();
    Twincuts annoyed = new Twincuts();
    List<Call> calls = new ArrayList<>();
    for (int p = 0; p < 8; p++) calls.add(new Call("point", 0, 0, 0));
    for (int l = 0; l < 16; l++) calls.add(new Call("line", l % 8, (l + 1 + l / 8) % 8, 20 - l));
    for (int k = 0; k < 8; k++) {
      calls.add(new Call("turn", k, 3, 0));
      calls.add(new Call("cut", 5 * k % 16, k, 0));
      calls.add(new Call("price", 3 * k % 16, 1 + k, 0));
    }
    for (Call call : calls) {
      annoy(annoyed);
      check("annoyed " + call, call.thrownBy(annoyed), NOTHING);
      check("calm " + call, call.thrownBy(calm), NOTHING);
      check("behind " + call, "" + annoyed.digest(), "" + calm.digest());
    }
    check("at last", shown(annoyed), shown(calm));
  }

  private static void annoy(Twincuts x) {
    Call[] calls = {
      new Call("line", 0, 8, 1), new Call("line", 0, 0, 1), new Call("cut", 16, 0, 0), new Call("price", 0, 21, 0),
      new Call("turn", 0, -1, 0)};
    for (Call call : calls) check("refused " + call, call.thrownBy(x).equals(NOTHING) ? "taken" : "refused", "refused");
  }

  // ---- how it is told

  /** All that can be asked of an order, of a cost, and all that is in the checksum. */
  private static String shown(Twincuts x) {
    StringBuilder s = new StringBuilder();
    for (int p = 0; p < x.net(0); p++) {
      s.append(x.row(p));
      for (int place = 0; place < x.ofPoint(p, 6); place++) s.append(' ').append(x.order(p, place));
      s.append('\n');
    }
    return s.append(x.digest()).toString();
  }

  private static void check(String call, String got, String due) {
    if (!got.equals(due)) {
      wrong++;
      if (wrong <= 50) System.out.println(call + ": got " + got + ", due is " + due);
    }
  }
}
