import java.util.List;

/** The boundary cases that the document names for the changes and for undo. What is refused stands in KeptTest. */
public final class ChangeEdgeTest {
  private static final int NONE = BakeryNight.NONE;
  private static final int NO_NIGHT = BakeryNight.NO_NIGHT;

  private ChangeEdgeTest() { }

  private static long bit(boolean answer) {
    return answer ? 1 : 0;
  }

  private static BakeryNight rich() {
    return Check.bakery(Given.RICH);
  }

  /** What undo answers on a new object after a change: 0 if it was recorded, so that no more can be undone. */
  private static void recorded(String what, View.Call change, long due) {
    View.Maker night = () -> {
      BakeryNight x = rich();
      x.simulate(100);
      return x;
    };
    BakeryNight x = night.make();
    Check.due(what, change.on(x), due);
    Check.due(what + " discards the night", x.spoiledCount(), NO_NIGHT);
    Check.due(what + " discards the plan", x.failedShops(), NO_NIGHT);
    x.simulate(100);
    Check.due(what + " can be undone", x.undo(), 0);
    Check.due(what + " is undone and the night discarded", x.spoiledCount(), NO_NIGHT);
    Check.due(what + " can be undone once", x.undo(), NONE);
    View.same(what + " is undone wholly: ", View.all(night, y -> change.on(y) + y.undo() + y.simulate(100)),
        View.all(night, y -> 0));
  }

  /** Each successful change is recorded and discards the night, even if it changes nothing; and so does undoing. */
  private static void changes() {
    recorded("setRoom(10)", x -> x.setRoom(10), 22);
    recorded("setRoom(40)", x -> x.setRoom(40), 22);
    recorded("setRoom to the same", x -> x.setRoom(22), 22);
    for (int oven = 0; oven < 3; oven++) {
      final int o = oven;
      recorded("breakOven(" + o + ", true)", x -> bit(x.breakOven(o, true)), 1);
      recorded("breakOven(" + o + ", false)", x -> bit(x.breakOven(o, false)), 1);
    }
    for (int street = 0; street < 4; street++) {
      final int s = street;
      recorded("closeStreet(" + s + ", true)", x -> bit(x.closeStreet(s, true)), 1);
      recorded("closeStreet(" + s + ", false)", x -> bit(x.closeStreet(s, false)), 1);
    }
    recorded("addOrder, least", x -> x.addOrder(0, 0, 1, 0), 5);
    recorded("addOrder, greatest", x -> x.addOrder(2, 1, 200, 1439), 5);
    int[] by = {200, 210, 190, 220, 205};
    for (int order = 0; order < 5; order++) {
      final int o = order;
      recorded("cancelOrder(" + o + ")", x -> bit(x.cancelOrder(o)), 1);
      recorded("moveOrder(" + o + ", 0)", x -> x.moveOrder(o, 0), by[o]);
      recorded("moveOrder(" + o + ", 1439)", x -> x.moveOrder(o, 1439), by[o]);
      recorded("moveOrder of " + o + " to the same", x -> x.moveOrder(o, by[o]), by[o]);
    }
  }

  /** A change again and again: each one has the state before it to go back to. */
  private static void again() {
    BakeryNight x = rich();
    Check.due("room 22 to 23", x.setRoom(23), 22);
    Check.due("room 23 to 23", x.setRoom(23), 23);
    Check.due("room 23 to 10", x.setRoom(10), 23);
    x.undo();
    Check.due("room 23", x.setRoom(11), 23);
    x.undo();
    x.undo();
    Check.due("room 23 still", x.setRoom(11), 23);
    x.undo();
    Check.due("the first of them", x.undo(), 0);
    Check.due("room 22", x.setRoom(11), 22);
    BakeryNight y = rich();
    y.breakOven(0, true);
    y.breakOven(0, true);
    y.closeStreet(0, true);
    y.closeStreet(0, true);
    Check.due("closed", y.distance(NONE, 0), 25);
    y.undo();
    Check.due("closed before", y.distance(NONE, 0), 25);
    y.undo();
    Check.due("open before that", y.distance(NONE, 0), 10);
    y.undo();
    y.simulate(0);
    Check.due("broken before", y.bakingMinutes(0), 0);
    Check.due("the last one to undo", y.undo(), 0);
    y.simulate(0);
    Check.due("whole before that", y.bakingMinutes(0) > 0, true);
    y.breakOven(0, true);
    y.breakOven(0, false);
    y.simulate(0);
    Check.due("whole again", y.bakingMinutes(0) > 0, true);
    y.undo();
    y.simulate(0);
    Check.due("broken again", y.bakingMinutes(0), 0);
  }

  // ------------------------------------------------------------ orders

  /** addOrder: NONE if there are 24 orders; a cancelled order keeps its number, but counts as no order otherwise. */
  private static void orders() {
    BakeryNight x = rich();
    for (int i = 5; i < 24; i++) {
      Check.due("order " + i, x.addOrder(0, 0, 1, 1439), i);
      Check.due("orders", x.orderCount(), i + 1);
    }
    Check.due("a twenty-fifth order", x.addOrder(0, 0, 1, 1439), NONE);
    Check.due("24 orders", x.orderCount(), 24);
    Check.due("cancelled", x.cancelOrder(23), true);
    Check.due("24 orders, a cancelled one among them", x.orderCount(), 24);
    Check.due("its number is kept", x.addOrder(0, 0, 1, 1439), NONE);
    Check.due("11 changes left", x.undo(), 11);
    Check.due("10 changes left", x.undo(), 10);
    Check.due("23 orders", x.orderCount(), 23);
    Check.due("the last number is free", x.addOrder(2, 1, 200, 0), 23);
    Check.due("with a minute of its own", x.moveOrder(23, 1), 0);
    Check.due("24 orders again", x.addOrder(2, 1, 200, 0), NONE);
    BakeryNight full = Check.bakery(Given.FULL);
    Check.due("24 orders of the text", full.addOrder(0, 0, 1, 1439), NONE);
    full.cancelOrder(0);
    Check.due("24 orders of the text, one cancelled", full.addOrder(0, 0, 1, 1439), NONE);
    Check.due("nothing was added", full.orderCount(), 24);
  }

  /** A cancelled order has no loaves, no batches, no shop, no due minute, and is never ready; undoing gives it back. */
  private static void cancelled() {
    BakeryNight x = rich();
    Check.due("loaves of rye", x.orderedLoaves(0), 15);
    Check.due("batches", x.batchCount(), 5);
    Check.due("cancelled", x.cancelOrder(1), true);
    Check.due("cancelled already", x.cancelOrder(1), false);
    Check.due("loaves of rye left", x.orderedLoaves(0), 10);
    Check.due("batches left", x.batchCount(), 4);
    Check.due("orders", x.orderCount(), 5);
    Check.due("its minute", x.moveOrder(1, 5), NONE);
    x.simulate(0);
    Check.due("not ready", x.readyMinute(1), NONE);
    Check.due("another order is", x.readyMinute(0) > 0, true);
    Check.due("one change", x.undo(), 0);
    Check.due("loaves of rye again", x.orderedLoaves(0), 15);
    Check.due("its minute again", x.moveOrder(1, 210), 210);
    for (int i = 0; i < 5; i++) x.cancelOrder(i);
    Check.due("no loaves of rye", x.orderedLoaves(0), 0);
    Check.due("no loaves of bun", x.orderedLoaves(1), 0);
    Check.due("no batches", x.batchCount(), 0);
    Check.due("still five orders", x.orderCount(), 5);
    Check.due("a night of nothing", x.simulate(77), 77);
    Check.due("no shop fails", x.failedShops(), 0);
    Check.due("the latest start", x.latestStart(), 1439);
    Check.due("the next number", x.addOrder(0, 0, 1, 5), 5);
  }

  // ------------------------------------------------------------ undo

  /** Does the change of a number from 0 to 29, none of which is refused after those before it. */
  private static void change(BakeryNight x, int number) {
    boolean done;
    switch (number % 6) {
      case 0: done = x.setRoom(10 + number) != NONE; break;
      case 1: done = x.breakOven(number % 3, number % 4 != 3); break;
      case 2: done = x.closeStreet(number % 4, number % 8 != 0); break;
      case 3: done = x.addOrder(number % 3, number % 2, 1 + number, 300 + number) == 5 + number / 6; break;
      case 4: done = x.moveOrder(5 + number / 6, 200 + number) == 299 + number; break;
      default: done = x.cancelOrder(number / 6); break;
    }
    if (!done) throw new IllegalStateException("change " + number + " is refused");
  }

  private static View.Maker after(int changes) {
    return () -> {
      BakeryNight x = rich();
      for (int i = 0; i < changes; i++) change(x, i);
      return x;
    };
  }

  private static List<String> bakery(BakeryNight x) {
    return View.now(x);
  }

  /** The latest 12 can be undone: after 0 to 30 changes of all kinds, one by one, each state is the one before. */
  private static void twelve() {
    for (int changes : new int[] {0, 1, 2, 11, 12, 13, 14, 24, 25, 29}) {
      for (int undone = 0; undone <= Math.min(12, changes); undone++) {
        BakeryNight x = after(changes).make();
        for (int i = 1; i <= undone; i++) Check.due(changes + " changes, undo " + i, x.undo(),
            Math.min(12, changes) - i);
        View.same(changes + " changes, " + undone + " undone: ", bakery(x), bakery(after(changes - undone).make()));
      }
      BakeryNight x = after(changes).make();
      for (int i = 0; i < Math.min(12, changes); i++) x.undo();
      for (int i = 0; i < 3; i++) Check.due(changes + " changes, nothing left to undo", x.undo(), NONE);
      View.same(changes + " changes, refused undos: ", bakery(x), bakery(after(Math.max(0, changes - 12)).make()));
    }
  }

  /** Undoes the latest change that was not undone yet, also when there are changes after an undo. */
  private static void between() {
    for (int changes : new int[] {1, 5, 11, 12, 13, 20}) {
      BakeryNight x = after(changes).make();
      int left = Math.min(12, changes);
      Check.due("undone", x.undo(), left - 1);
      change(x, changes - 1);
      View.same(changes + " changes, the last one twice: ", bakery(x), bakery(after(changes).make()));
      x = after(changes).make();
      x.undo();
      change(x, changes - 1);
      Check.due("changed, then undone", x.undo(), left - 1);
      View.same(changes + " changes, the last one twice and undone: ", bakery(x), bakery(after(changes - 1).make()));
      x = after(changes).make();
      x.undo();
      change(x, changes - 1);
      change(x, changes);
      Check.due("twice changed, then undone", x.undo(), Math.min(11, left));
      View.same(changes + " changes and one undone: ", bakery(x), bakery(after(changes).make()));
    }
    BakeryNight x = rich();
    for (int i = 0; i < 40; i++) {
      x.setRoom(10 + i % 30);
      Check.due("set and undone", x.undo(), 0);
    }
    Check.due("as at first", x.setRoom(30), 22);
    for (int i = 0; i < 40; i++) {
      x.setRoom(31);
      x.setRoom(32);
      Check.due("two forward, one back", x.undo(), Math.min(11, i + 2));
    }
  }

  /** A refused change is not recorded: the count of what can be undone stays. */
  private static void refused() {
    BakeryNight x = rich();
    x.setRoom(30);
    x.setRoom(9);
    x.setRoom(41);
    x.breakOven(3, true);
    x.breakOven(-1, true);
    x.closeStreet(4, true);
    x.closeStreet(-1, true);
    x.addOrder(3, 0, 1, 5);
    x.addOrder(0, 2, 1, 5);
    x.addOrder(0, 0, 0, 5);
    x.addOrder(0, 0, 201, 5);
    x.addOrder(0, 0, 1, -1);
    x.addOrder(0, 0, 1, 1440);
    x.cancelOrder(5);
    x.cancelOrder(-1);
    x.moveOrder(5, 5);
    x.moveOrder(-1, 5);
    x.moveOrder(0, -1);
    x.moveOrder(0, 1440);
    Check.due("one change was recorded", x.undo(), 0);
    Check.due("no more", x.undo(), NONE);
    Check.due("room 22", x.setRoom(23), 22);
  }

  /** After a text nothing can be undone; after a text with an error, what could be undone before. */
  private static void texts() {
    for (int changes : new int[] {0, 1, 12, 13}) {
      BakeryNight x = after(changes).make();
      Check.parse(x, Given.RICH);
      Check.due(changes + " changes, then a text", x.undo(), NONE);
      View.same(changes + " changes, then a text: ", bakery(x), bakery(rich()));
      x = after(changes).make();
      Check.parse(x, Given.RICH + "#");
      Check.due(changes + " changes, then an error", x.undo(), changes == 0 ? NONE : Math.min(12, changes) - 1);
      x = after(changes).make();
      Check.parse(x, "");
      Check.due(changes + " changes, then an empty text", x.undo(), NONE);
    }
  }

  public static void main(String[] args) {
    changes();
    again();
    orders();
    cancelled();
    twelve();
    between();
    refused();
    texts();
    Check.end("ChangeEdgeTest");
  }
}
