import java.util.ArrayList;
import java.util.List;

/**
 * What an object answers to all calls that change nothing, and what it answers after each undo and after its buffer is
 * parsed: so that a call that must change nothing can be told from one that does. Each object gets less than 512 calls.
 */
final class View {
  private static final int MOST_CHANGES = 13;

  private View() { }

  /** Makes an object in a given state, the same one each time. */
  interface Maker {
    BakeryNight make();
  }

  /** A call of the face on an object. */
  interface Call {
    long on(BakeryNight x);
  }

  static long answer(BakeryNight x, Call call) {
    return Check.answerOf(() -> call.on(x));
  }

  /** Looks at the answer of a call, and that nothing else is changed by it. */
  static void kept(String what, Maker maker, Call call, long due) {
    Check.due(what, answer(maker.make(), call), due);
    same(what + " changes nothing: ", all(maker, call), all(maker, x -> 0));
  }

  /** Looks at a call that parses a text with an error: everything but the buffer and the error is kept. */
  static void keptByFault(String what, Maker maker, Call call) {
    Check.due(what, answer(maker.make(), call), BakeryNight.NONE);
    Check.due(what + " empties the buffer", lengthAfter(maker, call), 0);
    same(what + " keeps the rest: ", withoutText(all(maker, call)), withoutText(all(maker, x -> 0)));
  }

  /** What an object answers at the moment, but for the error of its latest text. */
  static List<String> now(BakeryNight x) {
    List<String> lines = new ArrayList<>();
    look(x, lines);
    return withoutText(lines);
  }

  /** The length of the buffer after a call, told by the next feed, or by truncate if there is no room for one. */
  private static int lengthAfter(Maker maker, Call call) {
    BakeryNight x = maker.make();
    answer(x, call);
    int longer = x.feed(0, 0, 0, 0, 0);
    if (longer != BakeryNight.NONE) return longer - 20;
    int length = 1620;
    while (length > 0 && !x.truncate(length)) length--;
    return length;
  }

  private static List<String> withoutText(List<String> lines) {
    List<String> result = new ArrayList<>();
    for (String line : lines) if (!line.startsWith("text ")) result.add(line);
    return result;
  }

  static void same(String what, List<String> got, List<String> want) {
    Check.due(what + "number of answers", got.size(), want.size());
    for (int i = 0; i < got.size() && i < want.size(); i++) {
      if (!got.get(i).equals(want.get(i))) {
        Check.due(what + got.get(i) + " instead of " + want.get(i) + ":", 0, 1);
        return;
      }
    }
    Check.due(what, 0, 0);
  }

  /** The views of the object that a call was made on, of its states after each undo, and of what its buffer says. */
  static List<String> all(Maker maker, Call call) {
    List<String> lines = new ArrayList<>();
    for (int undone = 0; undone <= MOST_CHANGES; undone++) {
      BakeryNight x = maker.make();
      answer(x, call);
      int left = 0;
      for (int i = 0; i < undone; i++) left = x.undo();
      lines.add("after " + undone + " times undo(), the last one answers " + left);
      if (left == BakeryNight.NONE) break;
      look(x, lines);
    }
    lines.add("text length = " + lengthAfter(maker, call));
    BakeryNight x = maker.make();
    answer(x, call);
    lines.add("text parseBakery() = " + x.parseBakery());
    List<String> bakery = new ArrayList<>();
    look(x, bakery);
    for (String line : bakery) lines.add("text then " + line);
    return lines;
  }

  private static void look(BakeryNight x, List<String> lines) {
    add(lines, "text errorCode()", x.errorCode());
    add(lines, "text errorOffset()", x.errorOffset());
    bakery(x, lines);
    night(x, lines);
    plan(x, lines);
    latest(x, lines);
  }

  private static void add(List<String> lines, String call, long answer) {
    lines.add(call + " = " + answer);
  }

  private static void bakery(BakeryNight x, List<String> lines) {
    add(lines, "orderCount()", x.orderCount());
    add(lines, "batchCount()", x.batchCount());
    for (int dough = 0; dough <= 6; dough++) {
      add(lines, "orderedLoaves(" + dough + ")", x.orderedLoaves(dough));
      add(lines, "risingMinutes(" + dough + ", false)", x.risingMinutes(dough, false));
      add(lines, "risingMinutes(" + dough + ", true)", x.risingMinutes(dough, true));
    }
    for (int from = -1; from <= 7; from++) {
      for (int to = from; to <= 7; to++) add(lines, "distance(" + from + ", " + to + ")", x.distance(from, to));
    }
    for (int set : new int[] {7, 11, 127}) {
      add(lines, "routeMinutes(" + set + ")", x.routeMinutes(set));
      for (int stop = 0; stop < 4; stop++) add(lines, "routeStop(" + set + ", " + stop + ")", x.routeStop(set, stop));
    }
  }

  private static void night(BakeryNight x, List<String> lines) {
    add(lines, "spoiledCount()", x.spoiledCount());
    for (int b : new int[] {0, 1, Math.max(0, x.batchCount() - 1), x.batchCount()}) {
      add(lines, "batchDough(" + b + ")", Check.answerOf(() -> x.batchDough(b)));
      add(lines, "ovenOf(" + b + ")", Check.answerOf(() -> x.ovenOf(b)));
      for (int stage = 0; stage < 6; stage++) {
        final int s = stage;
        add(lines, "stageMinute(" + b + ", " + s + ")", Check.answerOf(() -> x.stageMinute(b, s)));
      }
    }
    for (int oven = 0; oven <= 4; oven++) {
      add(lines, "changingMinutes(" + oven + ")", x.changingMinutes(oven));
      add(lines, "bakingMinutes(" + oven + ")", x.bakingMinutes(oven));
      add(lines, "shelvesUsed(" + oven + ", 140)", x.shelvesUsed(oven, 140));
    }
    for (int place = 0; place < 3; place++) {
      add(lines, "waitingMinutes(" + place + ")", x.waitingMinutes(place));
      add(lines, "busiestMinute(" + place + ")", x.busiestMinute(place));
      add(lines, "busy(" + place + ", 110)", x.busy(place, 110));
    }
    for (int order = 0; order <= 24; order++) add(lines, "readyMinute(" + order + ")", x.readyMinute(order));
    for (int dough = 0; dough <= 6; dough++) add(lines, "surplusLoaves(" + dough + ")", x.surplusLoaves(dough));
    add(lines, "surplusValue(150)", x.surplusValue(150));
  }

  private static void plan(BakeryNight x, List<String> lines) {
    add(lines, "failedShops()", x.failedShops());
    add(lines, "staleOrders()", x.staleOrders());
    for (int shop = 0; shop <= 7; shop++) {
      add(lines, "vanOf(" + shop + ")", x.vanOf(shop));
      add(lines, "arrivalMinute(" + shop + ")", x.arrivalMinute(shop));
    }
    for (int van = 0; van <= 3; van++) add(lines, "departureMinute(" + van + ")", x.departureMinute(van));
  }

  private static void latest(BakeryNight x, List<String> lines) {
    add(lines, "latestStart()", x.latestStart());
    for (int change = 0; change < 5; change++) add(lines, "latestStartWith(" + change + ")", x.latestStartWith(change));
    add(lines, "vitalStreet()", x.vitalStreet());
  }
}
