import java.util.ArrayList;
import java.util.List;

/** Runs of random calls on a BakeryNight and on the PlainNight, whose answers must be the same. */
public final class ModelTest {
  private static long seed = 20261119;

  private ModelTest() { }

  private static int below(int bound) {
    seed = seed * 6364136223846793005L + 1442695040888963407L;
    return (int) ((seed >>> 33) % bound);
  }

  private static int from(int low, int high) {
    return low + below(high - low + 1);
  }

  private static int pick(int... values) {
    return values[below(values.length)];
  }

  // ------------------------------------------------------------ texts

  private static String text() {
    StringBuilder t = new StringBuilder();
    int doughs = from(1, pick(2, 3, 6));
    int shops = from(1, pick(2, 4, 5, 7));
    int orders = from(1, pick(3, 6, 10, 24));
    int[] heats = {from(100, 300), from(100, 300), from(180, 220)};
    if (below(4) != 0) t.append("room ").append(from(10, 40)).append(';');
    if (below(2) == 0) t.append("cool ").append(from(0, pick(0, 40, 120))).append(";\n");
    if (below(2) == 0) t.append("mixers ").append(from(1, 4)).append(';');
    if (below(2) == 0) t.append("bakers ").append(from(1, 4)).append(';');
    for (int i = 0; i < doughs; i++) {
      t.append("dough d").append((char) ('a' + i)).append(" mix").append(from(1, pick(10, 30, 120)))
          .append("rise").append(from(0, pick(0, 40, 300))).append("shape").append(from(1, pick(5, 20, 120)))
          .append("proof").append(from(0, pick(0, 30, 300))).append("limit").append(from(0, pick(0, 5, 30, 240)))
          .append("bake").append(from(1, pick(5, 30, 120))).append("heat").append(heats[below(3)])
          .append("yield").append(from(5, pick(10, 40, 200))).append("keep").append(from(1, pick(30, 120, 1440)))
          .append("price").append(from(0, 999)).append(";");
    }
    for (int i = from(below(12) == 0 ? 0 : 1, 4); i > 0; i--) {
      t.append("oven shelves").append(from(1, pick(1, 3, 6))).append("heat").append(below(2) == 0 ? heats[below(3)] : from(20, 300))
          .append("rate").append(from(1, pick(5, 50))).append(";");
    }
    for (int i = 0; i < shops; i++) t.append("shop ").append((char) ('a' + i)).append(";");
    for (int i = from(below(10) == 0 ? 0 : shops, pick(shops, 12, 20)); i > 0; i--) {
      int a = from(-1, shops - 1);
      int b = from(-1, shops - 1);
      if (a == b) b = a == -1 ? 0 : -1;
      t.append("street ").append(place(a)).append(' ').append(place(b)).append(' ')
          .append(from(1, pick(3, 10, 30, 120))).append(";");
    }
    for (int i = from(below(12) == 0 ? 0 : 1, 3); i > 0; i--) {
      t.append("van").append(from(1, pick(100, 300, 2000))).append(";");
    }
    int earliest = pick(0, 200, 400, 800);
    for (int i = 0; i < orders; i++) {
      String order = "order " + (char) ('a' + below(shops)) + " d" + (char) ('a' + below(doughs)) + ' '
          + from(1, pick(10, 40, 200)) + "by" + from(earliest, pick(earliest + 20, 1439, 1439)) + ";";
      if (t.length() + order.length() <= 1600) t.append(order);
    }
    return t.toString();
  }

  private static String place(int number) {
    return number < 0 ? "home" : String.valueOf((char) ('a' + number));
  }

  /** Breaks a text in a place or two: another sign, a sign more or fewer, tokens or statements moved. */
  private static String spoil(String text) {
    StringBuilder t = new StringBuilder(text);
    for (int turn = from(1, 3); turn > 0 && t.length() > 0; turn--) {
      int at = below(t.length());
      String signs = "abcdez0199;; \n#A{`/:" + (char) 200;
      switch (below(8)) {
        case 0: t.setCharAt(at, signs.charAt(below(signs.length()))); break;
        case 1: t.insert(at, signs.charAt(below(signs.length()))); break;
        case 2: t.deleteCharAt(at); break;
        case 3: t.setLength(at); break;
        case 4: {
          int to = Math.min(t.length(), at + below(30));
          t.insert(below(t.length()), t.substring(at, to));
          break;
        }
        case 5: {
          String[] parts = t.toString().split(";");
          int k = parts.length == 0 ? 0 : below(parts.length);
          if (parts.length > 0) t.append(parts[k]).append(';');
          break;
        }
        case 6: {
          String[] words = {"room 20;", "home", "mix", "order a da 1 by 0;", "shop a;", "van 2001;", "street a a 1;", "dough da",
              "oven shelves 0", "abcdefgh", "abcdefghi", "00012", "0012", ";"};
          t.insert(at, words[below(words.length)]);
          break;
        }
        default: {
          int end = t.indexOf(";", at);
          if (end >= 0) t.insert(end + 1, words(below(5)));
          break;
        }
      }
    }
    if (t.length() > 1600) t.setLength(1600);
    return t.toString();
  }

  private static String words(int kind) {
    return new String[] {"cool 5;", "shop zebra;", "mixers 3;bakers 0;", "van 1;", "street home a 120;"}[kind];
  }

  private static void parse(BakeryNight x, PlainNight y, String text) {
    long got = Check.parse(x, text);
    Check.due("parseBakery() of " + text, got, y.parse(text));
    Check.due("errorCode() of " + text, x.errorCode(), y.code);
    Check.due("errorOffset() of " + text, x.errorOffset(), y.offset);
  }

  // ------------------------------------------------------------ calls

  private static int looseIndex(int size) {
    return below(8) == 0 ? pick(-1, -2, size, size + 1, Integer.MIN_VALUE, Integer.MAX_VALUE) : below(Math.max(1, size));
  }

  private static int aMinute(PlainNight y) {
    if (below(15) == 0) return pick(-1, Integer.MIN_VALUE, Integer.MAX_VALUE, 0, 9999, 10000);
    return y.night == null ? from(0, 1439) : from(y.night.start, y.night.end + 5);
  }

  private static int by() {
    return below(15) == 0 ? pick(-1, 0, 1439, 1440) : from(0, 1439);
  }

  private static void change(BakeryNight x, PlainNight y, List<String> said) {
    int a = 0;
    int b = 0;
    switch (below(8)) {
      case 0:
        a = below(6) == 0 ? pick(9, 10, 40, 41) : from(10, 40);
        tell(said, "setRoom(" + a + ")", x.setRoom(a), y.setRoom(a));
        break;
      case 1:
        a = looseIndex(y.s.ovens.size());
        b = below(2);
        tell(said, "breakOven(" + a + ", " + (b == 1) + ")", x.breakOven(a, b == 1) ? 1 : 0, y.breakOven(a, b == 1) ? 1 : 0);
        break;
      case 2:
        a = looseIndex(y.s.streets.size());
        b = below(2);
        tell(said, "closeStreet(" + a + ", " + (b == 1) + ")", x.closeStreet(a, b == 1) ? 1 : 0, y.closeStreet(a, b == 1) ? 1 : 0);
        break;
      case 3: {
        int shop = looseIndex(y.s.shops);
        int dough = looseIndex(y.s.doughs.size());
        a = below(8) == 0 ? pick(0, 1, 200, 201) : from(1, 60);
        b = by();
        tell(said, "addOrder(" + shop + ", " + dough + ", " + a + ", " + b + ")", x.addOrder(shop, dough, a, b),
            y.addOrder(shop, dough, a, b));
        break;
      }
      case 4:
        a = looseIndex(y.s.orders.size());
        tell(said, "cancelOrder(" + a + ")", x.cancelOrder(a) ? 1 : 0, y.cancelOrder(a) ? 1 : 0);
        break;
      case 5:
        a = looseIndex(y.s.orders.size());
        b = by();
        tell(said, "moveOrder(" + a + ", " + b + ")", x.moveOrder(a, b), y.moveOrder(a, b));
        break;
      default:
        tell(said, "undo()", x.undo(), y.undo());
        break;
    }
  }

  private static void tell(List<String> said, String call, long got, long want) {
    said.add(call);
    Check.due(String.join(" ", said), got, want);
  }

  /** Every answer about the bakery and the night that both can give. */
  private static void compareAll(BakeryNight x, PlainNight y, List<String> said) {
    String run = String.join(" ", said) + " ";
    Check.due(run + "orderCount", x.orderCount(), y.s.orders.size());
    Check.due(run + "batchCount", x.batchCount(), y.batchCount());
    Check.due(run + "spoiledCount", x.spoiledCount(), y.spoiledCount());
    for (int d = -1; d <= y.s.doughs.size(); d++) {
      Check.due(run + "orderedLoaves" + d, x.orderedLoaves(d), y.orderedLoaves(d));
      Check.due(run + "risingMinutes" + d, x.risingMinutes(d, false), y.risingMinutes(d, false));
      Check.due(run + "risingMinutes proofing" + d, x.risingMinutes(d, true), y.risingMinutes(d, true));
      Check.due(run + "surplusLoaves" + d, x.surplusLoaves(d), y.surplusLoaves(d));
    }
    for (int b = -1; b <= (y.night == null ? 0 : y.night.batches.size()); b++) {
      final int batch = b;
      Check.due(run + "batchDough" + b, Check.answerOf(() -> x.batchDough(batch)), y.batchDough(b));
      Check.due(run + "ovenOf" + b, Check.answerOf(() -> x.ovenOf(batch)), y.ovenOf(b));
      for (int k = -1; k <= 6; k++) {
        final int stage = k;
        Check.due(run + "stageMinute" + b + "," + k, Check.answerOf(() -> x.stageMinute(batch, stage)), y.stageMinute(b, k));
      }
    }
    for (int o = -1; o <= y.s.ovens.size(); o++) {
      Check.due(run + "changingMinutes" + o, x.changingMinutes(o), y.changingMinutes(o));
      Check.due(run + "bakingMinutes" + o, x.bakingMinutes(o), y.bakingMinutes(o));
      for (int turn = 0; turn < 4; turn++) {
        int minute = aMinute(y);
        Check.due(run + "shelvesUsed" + o + "," + minute, x.shelvesUsed(o, minute), y.shelvesUsed(o, minute));
      }
    }
    for (int p = -1; p <= 3; p++) {
      Check.due(run + "waitingMinutes" + p, x.waitingMinutes(p), y.waitingMinutes(p));
      Check.due(run + "busiestMinute" + p, x.busiestMinute(p), y.busiestMinute(p));
      for (int turn = 0; turn < 4; turn++) {
        int minute = aMinute(y);
        Check.due(run + "busy" + p + "," + minute, x.busy(p, minute), y.busy(p, minute));
        Check.due(run + "surplusValue" + minute, x.surplusValue(minute), y.surplusValue(minute));
      }
    }
    for (int o = -1; o <= y.s.orders.size(); o++) Check.due(run + "readyMinute" + o, x.readyMinute(o), y.readyMinute(o));
    Check.due(run + "failedShops", x.failedShops(), y.failedShops());
    Check.due(run + "staleOrders", x.staleOrders(), y.staleOrders());
    for (int i = -2; i <= y.s.shops; i++) {
      Check.due(run + "vanOf" + i, x.vanOf(i), y.vanOf(i));
      Check.due(run + "arrivalMinute" + i, x.arrivalMinute(i), y.arrivalMinute(i));
      for (int k = -2; k <= y.s.shops; k++) Check.due(run + "distance" + i + "," + k, x.distance(i, k), y.distance(i, k));
    }
    for (int v = -1; v <= 3; v++) Check.due(run + "departureMinute" + v, x.departureMinute(v), y.departureMinute(v));
  }

  private static void compareRoutes(BakeryNight x, PlainNight y, List<String> said) {
    String run = String.join(" ", said) + " ";
    for (int turn = 0; turn < 4; turn++) {
      int set = below(10) == 0 ? pick(-1, 128, Integer.MIN_VALUE, 1 << 30) : below(1 << y.s.shops);
      Check.due(run + "routeMinutes" + set, x.routeMinutes(set), y.routeMinutes(set));
      for (int i = -1; i <= 7; i++) Check.due(run + "routeStop" + set + "," + i, x.routeStop(set, i), y.routeStop(set, i));
    }
  }

  /** Whether a start is the latest one of a bakery: looked at from all sides with little work, or all starts are tried. */
  private static void lookAtLatest(String call, int got, PlainNight.State s, boolean all) {
    if (s.batches().size() > 60) {
      Check.due(call, got, PlainNight.TOO_MANY);
      return;
    }
    if (all) {
      Check.due(call, got, PlainNight.latest(s));
      return;
    }
    Check.due(call + " is a start", got >= -1 && got <= 1439, true);
    if (got >= 0) Check.due(call + " = " + got + ": failed shops", PlainNight.failed(s, got), 0);
    for (int turn = 0; turn < 3 && got < 1439; turn++) {
      int later = turn == 0 ? got + 1 : from(got + 1, 1439);
      Check.due(call + " = " + got + ": no good at " + later, PlainNight.failed(s, later) != 0, true);
    }
  }

  private static void compareLatest(BakeryNight x, PlainNight y, List<String> said, boolean all) {
    String run = String.join(" ", said) + " ";
    int latest = x.latestStart();
    lookAtLatest(run + "latestStart()", latest, y.s, all);
    for (int c = 0; c < 5; c++) {
      lookAtLatest(run + "latestStartWith(" + c + ")", x.latestStartWith(c), PlainNight.with(y.s, c), all);
    }
    Check.due(run + "latestStartWith(-1)", x.latestStartWith(-1), -1);
    Check.due(run + "latestStartWith(5)", x.latestStartWith(5), -1);
    int vital = latest < 0 ? latest : PlainNight.NONE;
    int earliest = latest;
    for (int k = 0; k < y.s.streets.size() && latest >= 0; k++) {
      if (y.s.streets.get(k)[3] == 0) {
        BakeryNight other = twin(y, k);
        if (other.latestStart() < earliest) {
          earliest = other.latestStart();
          vital = k;
        }
      }
    }
    Check.due(run + "vitalStreet()", x.vitalStreet(), vital);
  }

  /** A new object in the state of the model, with one street more closed. */
  private static BakeryNight twin(PlainNight y, int closed) {
    StringBuilder t = new StringBuilder();
    t.append("room ").append(y.s.room).append(";cool ").append(y.s.cool).append(";mixers ").append(y.s.mixers)
        .append(";bakers ").append(y.s.bakers).append(";");
    String[] words = "mix rise shape proof limit bake heat yield keep price".split(" ");
    for (int i = 0; i < y.s.doughs.size(); i++) {
      t.append("dough d").append((char) ('a' + i)).append(' ');
      for (int k = 0; k < 10; k++) t.append(words[k]).append(y.s.doughs.get(i)[k]);
      t.append(';');
    }
    for (int[] o : y.s.ovens) t.append("oven shelves").append(o[0]).append("heat").append(o[1]).append("rate").append(o[2]).append(';');
    for (int i = 0; i < y.s.shops; i++) t.append("shop ").append((char) ('a' + i)).append(';');
    for (int i = 0; i < y.s.streets.size(); i++) {
      int[] k = y.s.streets.get(i);
      if (i != closed && k[3] == 0) {
        t.append("street ").append(place(k[0])).append(' ').append(place(k[1])).append(' ').append(k[2]).append(';');
      }
    }
    for (int[] v : y.s.vans) t.append("van").append(v[0]).append(';');
    BakeryNight x = Check.bakery(t.toString());
    for (int[] o : y.s.orders) {
      int number = x.addOrder(o[0], o[1], o[2], o[3]);
      if (o[4] == 1) x.cancelOrder(number);
    }
    for (int i = 0; i < y.s.ovens.size(); i++) x.breakOven(i, y.s.ovens.get(i)[3] == 1);
    return x;
  }

  private static final int[] SEEN = new int[6];

  private static void run(int number) {
    BakeryNight x = new BakeryNight();
    PlainNight y = new PlainNight();
    List<String> said = new ArrayList<>();
    String text = text();
    said.add("run " + number + ": " + text);
    parse(x, y, text);
    for (int turn = 0; turn < 4; turn++) {
      int start = below(20) == 0 ? pick(-1, 1440, 0, 1439) : from(0, pick(0, 300, 1439));
      tell(said, "simulate(" + start + ")", x.simulate(start), y.simulate(start));
      compareRoutes(x, y, said);
      if (turn % 2 == 0) compareAll(x, y, said);
      if (turn == 1) compareLatest(x, y, said, number % 40 == 0);
      if (turn % 2 == 1) compareAll(x, y, said);
      if (below(4) == 0) parse(x, y, spoil(text));
      if (below(6) == 0) {
        text = text();
        said.add("parse " + text);
        parse(x, y, text);
      }
      count(y);
      int changes = below(6) == 0 ? 20 : from(1, 4);
      for (int i = 0; i < changes; i++) change(x, y, said);
      if (below(3) == 0) compareAll(x, y, said);
      if (below(6) == 0) for (int i = 0; i < 14; i++) tell(said, "undo()", x.undo(), y.undo());
    }
  }

  /** What the runs came by, so that a look shows whether they reach the rarer things. */
  private static void count(PlainNight y) {
    if (y.night == null) return;
    SEEN[0]++;
    if (y.spoiledCount() > 0) SEEN[1]++;
    if (!y.best.exists) SEEN[2]++;
    if (y.best.exists && y.best.late > 0) SEEN[3]++;
    if (y.best.exists && y.best.stale > 0) SEEN[4]++;
    if (y.failedShops() == 0) SEEN[5]++;
  }

  public static void main(String[] args) {
    int runs = args.length > 0 ? Integer.parseInt(args[0]) : 400;
    if (args.length > 1) seed = Long.parseLong(args[1]);
    for (int i = 0; i < runs; i++) run(i);
    int[] codes = new int[6];
    for (int i = 0; i < runs * 10; i++) {
      BakeryNight x = new BakeryNight();
      PlainNight y = new PlainNight();
      parse(x, y, spoil(text()));
      codes[y.code]++;
    }
    System.out.println("nights, with spoiled batches, without a plan, with late shops, with stale orders, without fault: "
        + java.util.Arrays.toString(SEEN) + ", errors by code " + java.util.Arrays.toString(codes));
    Check.end("ModelTest");
  }
}
