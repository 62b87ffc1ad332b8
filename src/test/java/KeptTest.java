/**
 * Calls that the document refuses, and calls that only ask: what they answer, and that nothing at all is changed by
 * them, not the bakery, the night, the changes that can be undone, the buffer or the error (see View).
 */
public final class KeptTest {
  private static final int NONE = BakeryNight.NONE;
  private static final int NO_NIGHT = BakeryNight.NO_NIGHT;
  private static final int TOO_MANY = BakeryNight.TOO_MANY;
  private static final int LEAST = Integer.MIN_VALUE;
  private static final int MOST = Integer.MAX_VALUE;

  private KeptTest() { }

  private static void none(String what, View.Maker maker, View.Call call) {
    View.kept(what, maker, call, NONE);
  }

  private static long bit(boolean answer) {
    return answer ? 1 : 0;
  }

  // ------------------------------------------------------------ the buffer and the text

  private static void buffer() {
    none("feed into a full buffer", Given::full, x -> x.feed(0x3b3b3b3b, 0x61616161, 0, 0, 0));
    for (int length : new int[] {1581, 1599}) {
      View.Maker nearlyFull = () -> {
        BakeryNight x = Given.full();
        x.truncate(length);
        return x;
      };
      none("feed after " + length + " bytes", nearlyFull, x -> x.feed(0x3b3b3b3b, 0x61616161, 0, 0, 0));
      View.kept("truncate(" + (length + 1) + ") of " + length, nearlyFull, x -> bit(x.truncate(length + 1)), 0);
    }
    View.kept("truncate(1601) of 1600", Given::full, x -> bit(x.truncate(1601)), 0);
    int length = "room 30;shop q;street q home 4;".length();
    for (int wrong : new int[] {-1, LEAST, length + 1, 1600, MOST}) {
      View.kept("truncate(" + wrong + ")", Given::simulated, x -> bit(x.truncate(wrong)), 0);
      View.kept("truncate(" + wrong + ") of nothing", BakeryNight::new, x -> bit(x.truncate(wrong)), 0);
    }
    View.kept("truncate to the same length", Given::simulated, x -> bit(x.truncate(length)), 1);
    View.kept("truncate(0) of nothing", BakeryNight::new, x -> bit(x.truncate(0)), 1);
  }

  /** A text with an error, however much of it was right before, changes nothing but the buffer and the error. */
  private static void faults() {
    String[] texts = {"x", ";", "room 41;", "cool 3;cool 4;",
        "room 11;cool 1;mixers 4;bakers 4;shop z;van 1;street z y 1;", Given.RICH + "order a rye 1 by 1440;",
        Given.FULL + "van 1;", Given.FULL + "#", "oven shelves 1 heat 20 rate 51;",
        Given.dough("q", "1 1 1 1", 1, 1, 100, 5) + "dough q", "shop a;order a rye 5 by 5;", " "  + "room 20"};
    for (String text : texts) {
      for (View.Maker maker : new View.Maker[] {BakeryNight::new, Given::changed, Given::simulated, Given::full}) {
        View.keptByFault("parseBakery() of " + text, maker, x -> {
          x.truncate(0);
          return Check.parse(x, text);
        });
      }
    }
  }

  // ------------------------------------------------------------ questions

  private static void askOfBakery() {
    for (View.Maker maker : new View.Maker[] {BakeryNight::new, Given::simulated, Given::crowded}) {
      boolean none = maker.make().orderedLoaves(0) == NONE;
      for (int dough : new int[] {-1, none ? 0 : 2, 6, LEAST, MOST}) {
        none("orderedLoaves(" + dough + ")", maker, x -> x.orderedLoaves(dough));
        none("risingMinutes(" + dough + ", false)", maker, x -> x.risingMinutes(dough, false));
        none("risingMinutes(" + dough + ", true)", maker, x -> x.risingMinutes(dough, true));
      }
      for (int shop : new int[] {-2, none ? 0 : 3, 7, 8, LEAST, MOST}) {
        none("distance(" + shop + ", home)", maker, x -> x.distance(shop, NONE));
        none("distance(home, " + shop + ")", maker, x -> x.distance(NONE, shop));
        none("distance(" + shop + ", itself)", maker, x -> x.distance(shop, shop));
      }
      View.kept("distance(home, home)", maker, x -> x.distance(NONE, NONE), 0);
      View.kept("routeMinutes(0)", maker, x -> x.routeMinutes(0), 0);
      for (int set : new int[] {none ? 1 : 8, 9, 128, 1 << 30, LEAST, LEAST + 1, -1, -8, MOST}) {
        none("routeMinutes(" + set + ")", maker, x -> x.routeMinutes(set));
        none("routeStop(" + set + ", 0)", maker, x -> x.routeStop(set, 0));
      }
      for (int index : new int[] {-1, 0, 1, LEAST, MOST}) {
        none("routeStop(0, " + index + ")", maker, x -> x.routeStop(0, index));
      }
    }
    for (int index : new int[] {-1, 3, 7, 8, LEAST, MOST}) {
      none("routeStop(7, " + index + ")", Given::simulated, x -> x.routeStop(7, index));
    }
    View.Maker cutOff = () -> {
      BakeryNight x = Given.simulated();
      x.closeStreet(0, true);
      return x;
    };
    none("distance to a shop without a way", cutOff, x -> x.distance(NONE, 1));
    none("routeMinutes to a shop without a way", cutOff, x -> x.routeMinutes(2));
    none("routeStop to a shop without a way", cutOff, x -> x.routeStop(2, 0));
    View.kept("distance of shops that are cut off", cutOff, x -> x.distance(0, 2), 12);
  }

  private static final View.Maker[] WITHOUT_NIGHT = {BakeryNight::new, Given::changed, Given::crowded};

  /** Without a simulated night, whatever else is wrong. */
  private static void askWithoutNight() {
    for (View.Maker maker : WITHOUT_NIGHT) {
      View.kept("no night: spoiledCount()", maker, x -> x.spoiledCount(), NO_NIGHT);
      View.kept("no night: failedShops()", maker, x -> x.failedShops(), NO_NIGHT);
      View.kept("no night: staleOrders()", maker, x -> x.staleOrders(), NO_NIGHT);
      for (int k : new int[] {-1, 0, 99, LEAST, MOST}) {
        String of = "(" + k + ") without a night";
        View.kept("batchDough" + of, maker, x -> x.batchDough(k), Check.ILLEGAL_STATE);
        View.kept("ovenOf" + of, maker, x -> x.ovenOf(k), Check.ILLEGAL_STATE);
        View.kept("stageMinute of batch" + of, maker, x -> x.stageMinute(k, 0), Check.ILLEGAL_STATE);
        View.kept("stageMinute of stage" + of, maker, x -> x.stageMinute(0, k), Check.ILLEGAL_STATE);
        View.kept("changingMinutes" + of, maker, x -> x.changingMinutes(k), NO_NIGHT);
        View.kept("bakingMinutes" + of, maker, x -> x.bakingMinutes(k), NO_NIGHT);
        View.kept("waitingMinutes" + of, maker, x -> x.waitingMinutes(k), NO_NIGHT);
        View.kept("shelvesUsed" + of, maker, x -> x.shelvesUsed(k, 0), NO_NIGHT);
        View.kept("busy" + of, maker, x -> x.busy(k, 0), NO_NIGHT);
        View.kept("busiestMinute" + of, maker, x -> x.busiestMinute(k), NO_NIGHT);
        View.kept("readyMinute" + of, maker, x -> x.readyMinute(k), NO_NIGHT);
        View.kept("surplusLoaves" + of, maker, x -> x.surplusLoaves(k), NO_NIGHT);
        View.kept("surplusValue" + of, maker, x -> x.surplusValue(k), NO_NIGHT);
        View.kept("vanOf" + of, maker, x -> x.vanOf(k), NO_NIGHT);
        View.kept("arrivalMinute" + of, maker, x -> x.arrivalMinute(k), NO_NIGHT);
        View.kept("departureMinute" + of, maker, x -> x.departureMinute(k), NO_NIGHT);
      }
    }
  }

  private static void askOfNight(View.Maker maker, int batches, int ovens, int doughs, int shops, int vans) {
    for (int k : new int[] {-1, batches, 60, LEAST, MOST}) {
      View.kept("batchDough(" + k + ")", maker, x -> x.batchDough(k), Check.OUT_OF_BOUNDS);
      View.kept("ovenOf(" + k + ")", maker, x -> x.ovenOf(k), Check.OUT_OF_BOUNDS);
      View.kept("stageMinute(" + k + ", 0)", maker, x -> x.stageMinute(k, 0), Check.OUT_OF_BOUNDS);
      View.kept("stageMinute(" + k + ", 6)", maker, x -> x.stageMinute(k, 6), Check.OUT_OF_BOUNDS);
    }
    for (int k : new int[] {-1, 6, LEAST, MOST}) {
      View.kept("stageMinute(0, " + k + ")", maker, x -> x.stageMinute(0, k), Check.OUT_OF_BOUNDS);
    }
    for (int k : new int[] {-1, ovens, 4, LEAST, MOST}) {
      none("changingMinutes(" + k + ")", maker, x -> x.changingMinutes(k));
      none("bakingMinutes(" + k + ")", maker, x -> x.bakingMinutes(k));
      none("shelvesUsed(" + k + ", 140)", maker, x -> x.shelvesUsed(k, 140));
    }
    for (int k : new int[] {-1, 3, LEAST, MOST}) {
      none("waitingMinutes(" + k + ")", maker, x -> x.waitingMinutes(k));
      none("busy(" + k + ", 140)", maker, x -> x.busy(k, 140));
      none("busiestMinute(" + k + ")", maker, x -> x.busiestMinute(k));
    }
    for (int minute : new int[] {LEAST, -1, 0, 99, MOST}) {
      View.kept("shelvesUsed(0, " + minute + ")", maker, x -> x.shelvesUsed(0, minute), 0);
      for (int place = 0; place < 3; place++) {
        final int p = place;
        View.kept("busy(" + p + ", " + minute + ")", maker, x -> x.busy(p, minute), 0);
      }
    }
    for (int k : new int[] {-1, doughs, 6, LEAST, MOST}) none("surplusLoaves(" + k + ")", maker,
        x -> x.surplusLoaves(k));
    for (int k : new int[] {-1, 10000, LEAST, MOST}) none("surplusValue(" + k + ")", maker, x -> x.surplusValue(k));
    for (int k : new int[] {-1, 24, LEAST, MOST}) none("readyMinute(" + k + ")", maker, x -> x.readyMinute(k));
    for (int k : new int[] {-1, shops, 7, 8, LEAST, MOST}) {
      none("vanOf(" + k + ")", maker, x -> x.vanOf(k));
      none("arrivalMinute(" + k + ")", maker, x -> x.arrivalMinute(k));
    }
    for (int k : new int[] {-1, vans, 3, LEAST, MOST}) none("departureMinute(" + k + ")", maker,
        x -> x.departureMinute(k));
  }

  // ------------------------------------------------------------ starts

  private static void starts() {
    for (View.Maker maker : new View.Maker[] {BakeryNight::new, Given::changed, Given::simulated, Given::full,
        Given::crowded}) {
      for (int start : new int[] {-1, 1440, LEAST, MOST}) none("simulate(" + start + ")", maker,
          x -> x.simulate(start));
      for (int change : new int[] {-1, 5, LEAST, MOST}) {
        none("latestStartWith(" + change + ")", maker, x -> x.latestStartWith(change));
      }
    }
    View.kept("too many: simulate(0)", Given::crowded, x -> x.simulate(0), TOO_MANY);
    View.kept("too many: simulate(1439)", Given::crowded, x -> x.simulate(1439), TOO_MANY);
    View.kept("too many: latestStart()", Given::crowded, x -> x.latestStart(), TOO_MANY);
    View.kept("too many: vitalStreet()", Given::crowded, x -> x.vitalStreet(), TOO_MANY);
    for (int change = 0; change < 5; change++) {
      final int c = change;
      View.kept("too many: latestStartWith(" + c + ")", Given::crowded, x -> x.latestStartWith(c), TOO_MANY);
      View.kept("latestStartWith(" + c + ") of nothing", BakeryNight::new, x -> x.latestStartWith(c), 1439);
    }
    View.kept("latestStart() of nothing", BakeryNight::new, x -> x.latestStart(), 1439);
    none("vitalStreet() of nothing", BakeryNight::new, x -> x.vitalStreet());
  }

  // ------------------------------------------------------------ changes

  private static void changes(View.Maker maker, int ovens, int streets, int shops, int doughs, int orders) {
    for (int k : new int[] {9, 41, 0, -24, LEAST, MOST}) none("setRoom(" + k + ")", maker, x -> x.setRoom(k));
    for (boolean so : new boolean[] {false, true}) {
      for (int k : new int[] {-1, ovens, 4, LEAST, MOST}) {
        View.kept("breakOven(" + k + ", " + so + ")", maker, x -> bit(x.breakOven(k, so)), 0);
      }
      for (int k : new int[] {-1, streets, 20, LEAST, MOST}) {
        View.kept("closeStreet(" + k + ", " + so + ")", maker, x -> bit(x.closeStreet(k, so)), 0);
      }
    }
    for (int k : new int[] {-1, shops, 7, LEAST, MOST}) none("addOrder of shop " + k, maker,
        x -> x.addOrder(k, 0, 1, 5));
    for (int k : new int[] {-1, doughs, 6, LEAST, MOST}) none("addOrder of dough " + k, maker,
        x -> x.addOrder(0, k, 1, 5));
    for (int k : new int[] {0, 201, -1, LEAST, MOST}) none("addOrder of loaves " + k, maker,
        x -> x.addOrder(0, 0, k, 5));
    for (int k : new int[] {-1, 1440, LEAST, MOST}) {
      none("addOrder by " + k, maker, x -> x.addOrder(0, 0, 1, k));
      none("moveOrder(0, " + k + ")", maker, x -> x.moveOrder(0, k));
    }
    for (int k : new int[] {-1, orders, 24, LEAST, MOST}) {
      View.kept("cancelOrder(" + k + ")", maker, x -> bit(x.cancelOrder(k)), 0);
      none("moveOrder(" + k + ", 5)", maker, x -> x.moveOrder(k, 5));
    }
  }

  private static void refusedChanges() {
    changes(BakeryNight::new, 0, 0, 0, 0, 0);
    changes(Given::changed, 3, 4, 3, 2, 6);
    changes(Given::simulated, 3, 4, 3, 2, 6);
    changes(Given::crowded, 3, 4, 3, 2, 8);
    changes(Given::full, 4, 20, 7, 6, 24);
    View.kept("cancelOrder of a cancelled order", Given::simulated, x -> bit(x.cancelOrder(3)), 0);
    none("moveOrder of a cancelled order", Given::simulated, x -> x.moveOrder(3, 5));
    none("readyMinute of a cancelled order", Given::simulated, x -> x.readyMinute(3));
    none("addOrder to 24 orders", Given::full, x -> x.addOrder(0, 0, 1, 5));
    View.Maker cancelled = () -> {
      BakeryNight x = Given.full();
      x.cancelOrder(23);
      x.cancelOrder(0);
      x.simulate(0);
      return x;
    };
    none("addOrder to 24 orders, two of them cancelled", cancelled, x -> x.addOrder(0, 0, 1, 5));
    none("undo() of nothing", BakeryNight::new, x -> x.undo());
    none("undo() after a text", Given::full, x -> x.undo());
    View.Maker undone = () -> {
      BakeryNight x = Given.changed();
      for (int i = 0; i < 6; i++) x.undo();
      x.simulate(100);
      return x;
    };
    none("undo() after all undos", undone, x -> x.undo());
    View.Maker twelve = () -> {
      BakeryNight x = Given.changed();
      for (int i = 0; i < 9; i++) x.setRoom(10 + i);
      for (int i = 0; i < 12; i++) x.undo();
      x.simulate(100);
      return x;
    };
    none("undo() of the change before the latest twelve", twelve, x -> x.undo());
    Check.due("there is a night before that", twelve.make().spoiledCount() != NO_NIGHT, true);
  }

  /** The states that the calls are made in are what their names say. */
  private static void states() {
    Check.due("changed: an error", Given.changed().errorCode(), 2);
    Check.due("changed: its offset", Given.changed().errorOffset(), 12);
    Check.due("changed: six changes", Given.changed().undo(), 5);
    Check.due("simulated: ends after 100", Given.simulated().busiestMinute(2) > 100, true);
    Check.due("simulated: five of six orders left", Given.simulated().orderCount(), 6);
    Check.due("simulated: batches", Given.simulated().batchCount(), 4);
    Check.due("simulated: a plan", Given.simulated().failedShops(), 0);
    Check.due("simulated: a latest start", Given.simulated().latestStart() >= 100, true);
    Check.due("full: sixty batches", Given.full().batchCount(), 60);
    Check.due("full: orders", Given.full().orderCount(), 24);
    Check.due("full: none spoiled", Given.full().spoiledCount(), 0);
    Check.due("full: a plan", Given.full().failedShops(), 0);
    Check.due("crowded", Given.crowded().batchCount(), TOO_MANY);
    BakeryNight x = Given.crowded();
    x.addOrder(0, 0, 200, 5);
    x.undo();
    x.undo();
    x.undo();
    x.undo();
    x.undo();
    x.undo();
    Check.due("crowded: by one batch", x.batchCount(), 45);
  }

  public static void main(String[] args) {
    states();
    buffer();
    faults();
    askOfBakery();
    askWithoutNight();
    askOfNight(Given::simulated, 4, 3, 2, 3, 2);
    askOfNight(Given::full, 60, 4, 6, 7, 3);
    starts();
    refusedChanges();
    Check.end("KeptTest");
  }
}
