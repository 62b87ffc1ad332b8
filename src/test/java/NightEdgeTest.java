/** The boundary cases that the document names for the batches, the night and what is asked about it. */
public final class NightEdgeTest {
  private static final int NONE = BakeryNight.NONE;
  private static final int NO_NIGHT = BakeryNight.NO_NIGHT;
  private static final int TOO_MANY = BakeryNight.TOO_MANY;
  /** With these, a dough that takes a minute to mix and one to shape waits for an oven from minute 2. */
  private static final String QUICK = "mixers 4;bakers 4;";
  private static final String SHOP = "shop a;street home a 1;van 2000;";

  private NightEdgeTest() { }

  private static String quick(String name, int limit, int bake, int heat) {
    return Given.dough(name, "1 0 1 0", limit, bake, heat, 5);
  }

  private static String order(String dough, int loaves, int by) {
    return "order a " + dough + " " + loaves + " by " + by + ";";
  }

  private static void baked(String what, BakeryNight x, int batch, int oven, int begins) {
    Check.due(what + ": oven of batch " + batch, Check.answerOf(() -> x.ovenOf(batch)), oven);
    Check.due(what + ": baking begins of batch " + batch, Check.answerOf(() -> x.stageMinute(batch, 4)), begins);
  }

  // ------------------------------------------------------------ the batches

  /** As few batches as possible, each with the yield of the dough; TOO_MANY if there are more than 60. */
  private static void batches() {
    for (int yield : new int[] {5, 6, 199, 200}) {
      BakeryNight x = Check.bakery(Given.dough("x", "1 0 1 0", 9, 9, 200, yield) + SHOP);
      Check.due("no loaves, no batch", x.batchCount(), 0);
      int loaves = 0;
      for (int add : new int[] {1, yield - 1, 1, yield - 1, 1}) {
        x.addOrder(0, 0, add, 5);
        loaves += add;
        Check.due(loaves + " loaves", x.orderedLoaves(0), loaves);
        Check.due(loaves + " loaves in batches of " + yield, x.batchCount(),
            loaves / yield + (loaves % yield == 0 ? 0 : 1));
      }
    }
    BakeryNight x = Check.bakery(quick("x", 9, 9, 200) + quick("y", 9, 9, 200) + SHOP + order("x", 150, 5)
        + order("y", 145, 5));
    Check.due("59 batches", x.batchCount(), 59);
    x.addOrder(0, 1, 5, 5);
    Check.due("60 batches", x.batchCount(), 60);
    Check.due("60 batches: a night", x.simulate(0) >= 0, true);
    Check.due("60 batches: the first one", Check.answerOf(() -> x.batchDough(0)), 0);
    Check.due("60 batches: the last one of x", Check.answerOf(() -> x.batchDough(29)), 0);
    Check.due("60 batches: the first one of y", Check.answerOf(() -> x.batchDough(30)), 1);
    Check.due("60 batches: the last one", Check.answerOf(() -> x.batchDough(59)), 1);
    Check.due("60 batches: no more", Check.answerOf(() -> x.batchDough(60)), Check.OUT_OF_BOUNDS);
    Check.due("60 batches: the last one is mixed", Check.answerOf(() -> x.stageMinute(59, 0)), 59);
    Check.due("60 batches: the latest start", x.latestStart(), NONE);
    Check.due("60 batches: the latest start with an oven", x.latestStartWith(0), NONE);
    Check.due("60 batches: the vital street", x.vitalStreet(), NONE);
    x.addOrder(0, 0, 1, 5);
    Check.due("61 batches", x.batchCount(), TOO_MANY);
    Check.due("61 batches: no night", x.simulate(0), TOO_MANY);
    Check.due("61 batches: no night by it", x.spoiledCount(), NO_NIGHT);
    Check.due("61 batches: the start is looked at first", x.simulate(1440), NONE);
    Check.due("61 batches: the latest start", x.latestStart(), TOO_MANY);
    Check.due("61 batches: the change is looked at first", x.latestStartWith(5), NONE);
    Check.due("61 batches: the latest start with", x.latestStartWith(4), TOO_MANY);
    Check.due("61 batches: the vital street", x.vitalStreet(), TOO_MANY);
    x.cancelOrder(3);
    Check.due("60 batches again", x.simulate(0) >= 0, true);
    for (int i = 0; i < 20; i++) x.addOrder(0, i % 2, 200, 5);
    Check.due("far too many", x.batchCount(), TOO_MANY);
    Check.due("far too many: loaves", x.orderedLoaves(0), 2150);
    Check.due("far too many: no night", x.simulate(0), TOO_MANY);
  }

  /** In the order of the due minutes of their doughs, then of the numbers; the least minute of the orders is due. */
  private static void numbers() {
    int[][] dues = {{5, 5, 0}, {5, 4, 1}, {4, 5, 0}, {0, 1, 0}, {1, 0, 1}, {1439, 1439, 0}, {1439, 1438, 1},
        {1438, 1439, 0}, {0, 0, 0}};
    for (int[] d : dues) {
      BakeryNight x = Given.night(quick("x", 9, 9, 200) + quick("y", 9, 9, 200) + SHOP + order("x", 5, d[0])
          + order("y", 5, d[1]), 0);
      Check.due("due " + d[0] + " and " + d[1] + ": batch 0", Check.answerOf(() -> x.batchDough(0)), d[2]);
      Check.due("due " + d[0] + " and " + d[1] + ": batch 1", Check.answerOf(() -> x.batchDough(1)), 1 - d[2]);
    }
    BakeryNight x = Check.bakery(quick("x", 9, 9, 200) + quick("y", 9, 9, 200) + SHOP + order("x", 1, 500)
        + order("y", 1, 300) + order("x", 1, 299) + order("y", 1, 298));
    x.simulate(0);
    Check.due("the least minute of y", x.batchDough(0), 1);
    x.moveOrder(3, 299);
    x.simulate(0);
    Check.due("the same least minute", x.batchDough(0), 0);
    x.cancelOrder(2);
    x.simulate(0);
    Check.due("a cancelled order has no due minute", x.batchDough(0), 1);
  }

  /** Rising takes (rise * 24) / room minutes, rounded up; proofing takes (proof * 24) / room minutes, rounded up. */
  private static void rising() {
    int[][] cases = {{0, 10, 0}, {0, 40, 0}, {1, 10, 3}, {1, 11, 3}, {1, 12, 2}, {1, 13, 2}, {1, 23, 2}, {1, 24, 1},
        {1, 25, 1}, {1, 40, 1}, {5, 40, 3}, {5, 39, 4}, {300, 10, 720}, {300, 40, 180}, {300, 39, 185}, {300, 24, 300},
        {299, 24, 299}, {25, 24, 25}, {10, 16, 15}, {10, 17, 15}, {10, 15, 16}};
    for (int[] c : cases) {
      String text = Given.dough("x", "1 " + c[0] + " 1 0", 9, 9, 200, 5)
          + Given.dough("y", "1 0 1 " + c[0], 9, 9, 200, 5) + Given.oven(6, 200, 1) + SHOP + order("x", 5, 900)
          + order("y", 5, 901);
      BakeryNight x = Check.bakery("room " + c[1] + ";mixers 2;bakers 2;" + text);
      String what = c[0] + " minutes at " + c[1];
      Check.due(what + " to rise", x.risingMinutes(0, false), c[2]);
      Check.due(what + " to proof", x.risingMinutes(1, true), c[2]);
      Check.due(what + " to proof for x", x.risingMinutes(0, true), 0);
      Check.due(what + " to rise for y", x.risingMinutes(1, false), 0);
      x.simulate(50);
      Check.due(what + ": shaped when it has risen", x.stageMinute(0, 2), 51 + c[2]);
      Check.due(what + ": baked when it has proofed", x.stageMinute(1, 4), 52 + c[2]);
      BakeryNight y = Check.bakery("mixers 2;bakers 2;" + text);
      y.setRoom(c[1]);
      Check.due(what + ": in the present room", y.risingMinutes(0, false), c[2]);
    }
  }

  // ------------------------------------------------------------ the night

  /** What ends in a minute has ended before the steps of that minute; 0 minutes end at once. */
  private static void ends() {
    String one = Given.oven(1, 200, 1) + SHOP;
    BakeryNight x = Given.night(Given.dough("x", "5 0 7 0", 99, 10, 200, 5) + one + order("x", 10, 900), 3);
    Given.stages("the mixer is free when mixing ends", x, 1, 8, 13, 15, 22, 25, 35);
    Given.stages("the baker and the shelf are free when their stages end", x, 0, 3, 8, 8, 15, 15, 25);
    x = Given.night(QUICK + quick("x", 10, 9, 201) + Given.oven(1, 200, 1) + SHOP + order("x", 10, 900), 0);
    baked("an oven is hot in the minute in which its change ends", x, 0, 0, 3);
    baked("a shelf is free in the minute in which baking ends", x, 1, 0, 12);
    x = Given.night(QUICK + quick("x", 99, 9, 200) + quick("y", 99, 9, 210) + Given.oven(1, 200, 1) + SHOP
        + order("x", 5, 900) + order("y", 5, 901), 0);
    baked("an oven can be changed in the minute in which its last batch is baked", x, 1, 0, 21);
    x = Given.night(Given.dough("x", "5 1 7 1", 99, 10, 200, 5) + one + order("x", 5, 900), 0);
    Given.stages("a minute each", x, 0, 0, 5, 6, 13, 14, 24);
    x = Given.night("room 10;" + Given.dough("x", "120 300 120 300", 240, 120, 200, 5) + one + order("x", 5, 900),
        1439);
    Given.stages("the longest of all", x, 0, 1439, 1559, 2279, 2399, 3119, 3239);
    x = Given.night(Given.dough("x", "1 0 1 0", 0, 1, 200, 5) + one + order("x", 5, 900), 0);
    Given.stages("the shortest of all", x, 0, 0, 1, 1, 2, 2, 3);
  }

  /** Each batch that has waited for an oven for more minutes than its limit is spoiled, before it can get an oven. */
  private static void limits() {
    for (int limit : new int[] {0, 1, 9, 119}) {
      for (int bake = Math.max(1, limit); bake <= limit + 1; bake++) {
        String what = "limit " + limit + ", waits " + bake;
        BakeryNight x = Given.night(QUICK + quick("x", limit, bake, 200) + Given.oven(1, 200, 1) + SHOP
            + order("x", 10, 900), 0);
        boolean kept = bake <= limit;
        baked(what, x, 1, kept ? 0 : NONE, kept ? 2 + bake : NONE);
        Check.due(what + ": ended", x.stageMinute(1, 5), kept ? 2 + 2 * bake : NONE);
        Check.due(what + ": spoiled", x.spoiledCount(), kept ? 0 : 1);
        Check.due(what + ": minutes waited", x.waitingMinutes(2), kept ? bake : limit + 1);
        Check.due(what + ": still proofed", x.stageMinute(1, 3), 2);
      }
    }
    for (int heat : new int[] {299, 300}) {
      BakeryNight x = Given.night(QUICK + quick("x", 240, 5, heat) + Given.oven(1, heat - 240, 1) + SHOP
          + order("x", 5, 900), 0);
      Check.due("limit 240, waits 240", x.stageMinute(0, 4), 242);
      x = Given.night(QUICK + quick("x", 240, 5, heat) + Given.oven(1, heat - 241, 1) + SHOP + order("x", 5, 900), 0);
      Check.due("limit 240, would wait 241", x.stageMinute(0, 4), NONE);
      Check.due("limit 240, waited 241", x.waitingMinutes(2), 241);
      Check.due("its change would have ended in that minute", x.changingMinutes(0), 241);
      Check.due("it ends the night", x.simulate(7), 250);
    }
    for (int limit : new int[] {0, 1, 240}) {
      BakeryNight x = Check.bakery(QUICK + quick("x", limit, 5, 200) + SHOP + order("x", 5, 900));
      Check.due("without ovens, limit " + limit, x.simulate(10), 10 + 2 + limit + 1);
    }
  }

  /** A batch needs exactly the heat of the dough; a change takes the difference by the rate, rounded up. */
  private static void heats() {
    int[][] cases = {{200, 1, 0}, {199, 1, 1}, {201, 1, 1}, {199, 50, 1}, {201, 50, 1}, {150, 50, 1}, {149, 50, 2},
        {250, 50, 1}, {251, 50, 2}, {190, 5, 2}, {189, 5, 3}, {191, 5, 2}, {211, 5, 3}, {20, 1, 180}, {20, 50, 4},
        {300, 1, 100}, {300, 50, 2}};
    for (int[] c : cases) {
      String what = "heat " + c[0] + " at " + c[1];
      BakeryNight x = Given.night(QUICK + quick("x", 240, 5, 200) + Given.oven(1, c[0], c[1]) + SHOP
          + order("x", 5, 900), 0);
      baked(what, x, 0, 0, 2 + c[2]);
      Check.due(what + ": minutes of change", x.changingMinutes(0), c[2]);
      Check.due(what + ": minutes waited", x.waitingMinutes(2), c[2]);
    }
    for (int heat : new int[] {100, 101, 299, 300}) {
      for (int oven : new int[] {100, 101, 299, 300}) {
        BakeryNight x = Given.night(QUICK + quick("x", 240, 5, heat) + Given.oven(1, oven, 1) + SHOP
            + order("x", 5, 900), 0);
        baked("dough " + heat + ", oven " + oven, x, 0, 0, 2 + Math.abs(heat - oven));
      }
    }
  }

  /** The oven that needs the fewest minutes is changed, the first one on a tie; not one that is broken or in use. */
  private static void choices() {
    int[][] cases = {{100, 10, 150, 5, 0}, {100, 10, 151, 5, 0}, {100, 10, 155, 5, 1}, {155, 5, 100, 10, 0},
        {150, 5, 100, 10, 0}, {149, 5, 100, 10, 1}, {199, 1, 201, 1, 0}, {198, 1, 201, 1, 1}, {199, 1, 150, 50, 0},
        {199, 1, 149, 50, 0}, {198, 1, 150, 50, 1}};
    for (int[] c : cases) {
      BakeryNight x = Given.night(QUICK + quick("x", 99, 5, 200) + Given.oven(1, c[0], c[1])
          + Given.oven(1, c[2], c[3]) + SHOP + order("x", 5, 900), 0);
      Check.due("ovens " + java.util.Arrays.toString(c), x.ovenOf(0), c[4]);
      Check.due("the other one is not changed", x.changingMinutes(1 - c[4]), 0);
    }
    String two = QUICK + quick("x", 99, 20, 200) + quick("y", 99, 20, 210) + SHOP + order("x", 5, 900)
        + order("y", 5, 901);
    BakeryNight x = Given.night(two + Given.oven(2, 200, 1), 0);
    baked("an oven with a batch is not changed", x, 1, 0, 32);
    x = Given.night(two + Given.oven(2, 200, 1) + Given.oven(2, 111, 1), 0);
    baked("the other one is changed in the meantime", x, 1, 1, 101);
    Check.due("and the first one not any more", x.changingMinutes(0), 0);
    x = Given.night(two + Given.oven(2, 200, 1) + Given.oven(2, 201, 1), 0);
    baked("the other one is nearer in time", x, 1, 1, 11);
    x = Given.night(two + Given.oven(2, 205, 1), 0);
    baked("an oven that is changing is not changed again", x, 0, 0, 7);
    baked("but when its batch is baked", x, 1, 0, 37);
    BakeryNight y = Check.bakery(two + Given.oven(2, 200, 1) + Given.oven(2, 210, 1) + Given.oven(2, 191, 1));
    y.breakOven(0, true);
    y.simulate(0);
    baked("a broken oven is neither used", y, 0, 2, 11);
    baked("nor changed", y, 1, 1, 2);
    Check.due("a broken oven has no changes", y.changingMinutes(0), 0);
    Check.due("a broken oven has no batches", y.bakingMinutes(0), 0);
    x = Given.night(QUICK + quick("x", 100, 20, 200) + SHOP + Given.oven(6, 100, 1) + Given.oven(6, 90, 1)
        + order("x", 10, 900), 0);
    Check.due("no second oven is changed for the same heat", x.changingMinutes(1), 0);
    Check.due("the first one has both", x.shelvesUsed(0, 102), 2);
    x = Given.night(QUICK + quick("x", 99, 20, 200) + quick("y", 99, 20, 200) + SHOP + Given.oven(6, 100, 1)
        + Given.oven(6, 90, 1) + order("x", 5, 900) + order("y", 5, 900), 0);
    Check.due("nor for another dough of that heat", x.changingMinutes(1), 0);
    x = Given.night(two + Given.oven(6, 100, 1) + Given.oven(6, 90, 1), 0);
    Check.due("but for another heat", x.changingMinutes(1), 120);
  }

  /** A free shelf: from 1 to 6 in an oven; the first oven with one is taken. */
  private static void shelves() {
    for (int shelves = 1; shelves <= 6; shelves++) {
      String text = QUICK + Given.dough("x", "1 0 1 9", 240, 20, 200, 5) + Given.oven(shelves, 200, 1) + SHOP
          + order("x", 35, 900);
      BakeryNight x = Given.night(text, 0);
      Check.due(shelves + " shelves: four batches come first", x.shelvesUsed(0, 11), Math.min(4, shelves));
      Check.due(shelves + " shelves: seven want one", x.shelvesUsed(0, 12), Math.min(7, shelves));
      Check.due(shelves + " shelves: the last one", x.stageMinute(6, 4),
          (new int[] {131, 71, 51, 31, 31, 31})[shelves - 1]);
      BakeryNight y = Given.night(text + Given.oven(6, 200, 1), 0);
      Check.due(shelves + " shelves, then the next oven", y.ovenOf(shelves), 1);
      Check.due(shelves + " shelves, up to that the first one", y.ovenOf(shelves - 1), 0);
      Check.due(shelves + " shelves: the shelves of both", y.busy(2, 13), 7);
    }
  }

  /** The batches that wait for an oven: in the order in which their proofing ended, then of their numbers. */
  private static void ovenOrder() {
    String rest = SHOP + order("x", 5, 900) + order("y", 10, 901);
    BakeryNight x = Given.night(QUICK + Given.dough("x", "1 0 1 4", 99, 9, 200, 5)
        + Given.dough("y", "1 0 1 3", 99, 9, 200, 5) + Given.oven(1, 190, 1) + rest, 0);
    Check.due("proofed a minute earlier", x.stageMinute(1, 4), 15);
    Check.due("in the same minute, the smaller number first", x.stageMinute(2, 4), 24);
    Check.due("proofed last", x.stageMinute(0, 4), 33);
    x = Given.night(QUICK + Given.dough("x", "1 0 1 4", 99, 9, 200, 5) + Given.dough("y", "1 0 1 4", 99, 9, 200, 5)
        + Given.oven(1, 190, 1) + rest, 0);
    Check.due("all in the same minute: 0", x.stageMinute(0, 4), 16);
    Check.due("all in the same minute: 1", x.stageMinute(1, 4), 25);
    Check.due("all in the same minute: 2", x.stageMinute(2, 4), 34);
    x = Given.night(QUICK + Given.dough("x", "1 0 1 4", 99, 9, 150, 5) + Given.dough("y", "1 0 1 3", 99, 9, 200, 5)
        + Given.oven(1, 175, 5) + rest, 0);
    Check.due("the one that waits longest has the oven changed", x.stageMinute(1, 4), 10);
    Check.due("a later one does not hold up the next with the right heat", x.stageMinute(2, 4), 19);
    Check.due("the other heat comes last", x.stageMinute(0, 4), 38);
  }

  /** The batches that wait to be shaped: in the order in which their rising ended, then of their numbers. */
  private static void bakerOrder() {
    String rest = Given.oven(6, 200, 1) + SHOP + order("x", 5, 900) + order("y", 10, 901);
    for (int bakers = 1; bakers <= 3; bakers++) {
      BakeryNight x = Given.night("mixers 4;bakers " + bakers + ";" + Given.dough("x", "1 4 9 0", 99, 9, 200, 5)
          + Given.dough("y", "1 3 9 0", 99, 9, 200, 5) + rest, 0);
      Check.due(bakers + " bakers: risen first", x.stageMinute(1, 2), 4);
      Check.due(bakers + " bakers: in the same minute", x.stageMinute(2, 2), bakers == 1 ? 13 : 4);
      Check.due(bakers + " bakers: risen last", x.stageMinute(0, 2), bakers == 1 ? 22 : bakers == 2 ? 13 : 5);
    }
    BakeryNight x = Given.night("mixers 4;" + Given.dough("x", "1 4 9 0", 99, 9, 200, 5)
        + Given.dough("y", "1 4 9 0", 99, 9, 200, 5) + rest, 0);
    Check.due("all in the same minute: 0", x.stageMinute(0, 2), 5);
    Check.due("all in the same minute: 1", x.stageMinute(1, 2), 14);
    Check.due("all in the same minute: 2", x.stageMinute(2, 2), 23);
  }

  /** As long as a mixer is free, the batches are mixed in the order of their numbers. */
  private static void mixerOrder() {
    for (int mixers = 1; mixers <= 4; mixers++) {
      BakeryNight x = Given.night("mixers " + mixers + ";" + Given.dough("x", "7 0 1 0", 99, 9, 200, 5)
          + Given.oven(6, 200, 1) + SHOP + order("x", 25, 900), 100);
      for (int batch = 0; batch < 5; batch++) {
        Check.due(mixers + " mixers: batch " + batch, x.stageMinute(batch, 0), 100 + 7 * (batch / mixers));
      }
      Check.due(mixers + " mixers in use", x.busy(0, 100), mixers);
      Check.due(mixers + " mixers: minutes waited", x.waitingMinutes(0), 7 * (new int[] {10, 4, 2, 1})[mixers - 1]);
    }
  }

  /** The night ends at the greatest minute at which a batch is baked or spoiled; the start if there are no batches. */
  private static void nightEnds() {
    String two = QUICK + quick("x", 50, 20, 200) + SHOP;
    for (int start : new int[] {0, 1, 1438, 1439}) {
      Check.due("baked last", Check.bakery(two + Given.oven(1, 200, 1) + order("x", 10, 900)).simulate(start),
          start + 42);
      Check.due("spoiled last", Check.bakery(QUICK + quick("x", 99, 20, 200) + Given.oven(1, 200, 1)
          + quick("y", 120, 5, 100) + SHOP + order("x", 25, 900) + order("y", 5, 901)).simulate(start),
          start + 3 + 121);
      Check.due("nothing ordered", Check.bakery(two).simulate(start), start);
      Check.due("an empty bakery", new BakeryNight().simulate(start), start);
    }
    BakeryNight x = Check.bakery(two + Given.oven(1, 200, 1) + order("x", 5, 900));
    Check.due("-1", x.simulate(-1), NONE);
    Check.due("1440", x.simulate(1440), NONE);
    Check.due("no night by them", x.spoiledCount(), NO_NIGHT);
    Check.due("0", x.simulate(0), 22);
    Check.due("1440 after a night", x.simulate(1440), NONE);
    Check.due("the night before is kept", x.stageMinute(0, 0), 0);
    Check.due("1439", x.simulate(1439), 1461);
    Check.due("replaces it", x.stageMinute(0, 0), 1439);
    Check.due("-1 after a night", x.simulate(-1), NONE);
    Check.due("that night is kept", x.stageMinute(0, 5), 1461);
    x.cancelOrder(0);
    Check.due("without a batch", x.simulate(5), 5);
    Check.due("without a batch: batch 0", Check.answerOf(() -> x.batchDough(0)), Check.OUT_OF_BOUNDS);
    Check.due("without a batch: stage", Check.answerOf(() -> x.stageMinute(0, 0)), Check.OUT_OF_BOUNDS);
    Check.due("without a batch: oven", Check.answerOf(() -> x.ovenOf(0)), Check.OUT_OF_BOUNDS);
    Check.due("without a batch: spoiled", x.spoiledCount(), 0);
    Check.due("without a batch: changed", x.changingMinutes(0), 0);
    Check.due("without a batch: baked", x.bakingMinutes(0), 0);
    for (int place = 0; place < 3; place++) {
      Check.due("without a batch: waited", x.waitingMinutes(place), 0);
      Check.due("without a batch: busiest", x.busiestMinute(place), NONE);
      Check.due("without a batch: busy", x.busy(place, 5), 0);
    }
    Check.due("without a batch: loaves left", x.surplusLoaves(0), 0);
    Check.due("without a batch: their value", x.surplusValue(5), 0);
  }

  /** Loaves are given by the minute of arrival, then by number; an order that does not get enough is never ready. */
  private static void loaves() {
    String text = "cool 7;mixers 4;bakers 4;" + Given.dough("x", "1 0 1 0", 15, 10, 200, 10) + Given.oven(1, 200, 1)
        + SHOP;
    int[] ready = {12 + 7, 22 + 7, NONE};
    for (int first = 1; first <= 29; first += 3) {
      BakeryNight x = Given.night(text + order("x", first, 300) + order("x", 30 - first, 301), 0);
      Check.due("two of three batches are baked", x.spoiledCount(), 1);
      Check.due(first + " loaves", x.readyMinute(0), ready[(first - 1) / 10]);
      Check.due("not enough for the other", x.readyMinute(1), NONE);
      Check.due("none left", x.surplusLoaves(0), 0);
    }
    for (int last : new int[] {1, 9, 10}) {
      BakeryNight x = Given.night(text + order("x", last, 302) + order("x", 10, 301) + order("x", 10, 300), 0);
      Check.due("exactly the first batch", x.readyMinute(2), 19);
      Check.due("exactly the second batch", x.readyMinute(1), 29);
      Check.due("the first loaf of the spoiled batch", x.readyMinute(0), NONE);
    }
    BakeryNight x = Given.night(text + order("x", 11, 300) + order("x", 10, 301) + order("x", 1, 302), 0);
    Check.due("a loaf of the second batch", x.readyMinute(0), 29);
    Check.due("a loaf too few", x.readyMinute(1), NONE);
    Check.due("then no later order, though a loaf would be enough", x.readyMinute(2), NONE);
    x = Given.night(text + order("x", 10, 300) + order("x", 10, 300), 0);
    Check.due("the smaller number first", x.readyMinute(0), 19);
    Check.due("then the greater", x.readyMinute(1), 29);
    x = Given.night(text + order("x", 10, 301) + order("x", 10, 300), 0);
    Check.due("a minute later, so it comes second", x.readyMinute(0), 29);
    Check.due("a minute earlier", x.readyMinute(1), 19);
    x = Given.night(text + order("x", 10, 300), 1439);
    Check.due("ready after midnight", x.readyMinute(0), 1439 + 19);
  }

  // ------------------------------------------------------------ what is asked about the night

  /** A spoiled batch does not reach the stages of baking; before that it has all of them. */
  private static void spoiledStages() {
    BakeryNight x = Given.night(Given.dough("x", "3 4 5 6", 7, 8, 200, 5) + SHOP + order("x", 5, 900), 10);
    Given.stages("spoiled", x, 0, 10, 13, 17, 22, NONE, NONE);
    Check.due("spoiled: no oven", x.ovenOf(0), NONE);
    Check.due("spoiled: a batch too far", Check.answerOf(() -> x.ovenOf(1)), Check.OUT_OF_BOUNDS);
    Check.due("spoiled: a stage too far", Check.answerOf(() -> x.stageMinute(0, 6)), Check.OUT_OF_BOUNDS);
    Check.due("spoiled: a stage too few", Check.answerOf(() -> x.stageMinute(0, -1)), Check.OUT_OF_BOUNDS);
    Check.due("spoiled: waited", x.waitingMinutes(2), 8);
    Check.due("spoiled: at the end", x.simulate(10), 22 + 6 + 8);
    Check.due("spoiled: on no shelf", x.busy(2, 30), 0);
    Check.due("spoiled: on no shelf, at NONE", x.busy(2, NONE), 0);
    Check.due("spoiled: no busiest minute", x.busiestMinute(2), NONE);
    for (int first = 0; first < 2; first++) {
      String late = Given.dough(first == 0 ? "x" : "y", "1 3 1 0", 0, 8, 220, 5);
      String two = first == 0 ? late + quick("y", 0, 8, 200) : quick("x", 0, 8, 200) + late;
      BakeryNight y = Given.night(QUICK + two + Given.oven(1, 200, 1) + SHOP + order("x", 5, 900)
          + order("y", 5, 901), 0);
      Check.due("one of two is spoiled, " + first, y.ovenOf(first), NONE);
      Check.due("the other is on the only shelf", y.busiestMinute(2), 2);
      Check.due("the spoiled one is not", y.busy(2, 2), 1);
    }
  }

  /** In use from the minute at which the stage begins to the last minute before it ends. */
  private static void inUse() {
    BakeryNight x = Given.night(Given.dough("x", "3 4 5 6", 7, 8, 200, 5) + Given.oven(1, 200, 1)
        + Given.oven(1, 200, 1) + SHOP + order("x", 5, 900), 10);
    int[][] spans = {{10, 13}, {17, 22}, {28, 36}};
    for (int place = 0; place < 3; place++) {
      for (int minute = 0; minute < 50; minute++) {
        int used = minute >= spans[place][0] && minute < spans[place][1] ? 1 : 0;
        Check.due("place " + place + " at " + minute, x.busy(place, minute), used);
        if (place == 2) Check.due("shelves of oven 0 at " + minute, x.shelvesUsed(0, minute), used);
        if (place == 2) Check.due("shelves of oven 1 at " + minute, x.shelvesUsed(1, minute), 0);
      }
      Check.due("busiest minute of place " + place, x.busiestMinute(place), spans[place][0]);
    }
    BakeryNight y = Given.night("mixers 2;" + Given.dough("x", "3 0 1 0", 99, 3, 200, 5) + Given.oven(1, 200, 1)
        + SHOP + order("x", 25, 900), 0);
    Check.due("the first of the busiest minutes", y.busiestMinute(0), 0);
    Check.due("one as busy comes later", y.busy(0, 3), 2);
    Check.due("one less busy comes last", y.busy(0, 6), 1);
    Check.due("the only baker first", y.busiestMinute(1), 3);
    Check.due("the only shelf first", y.busiestMinute(2), 4);
    y = Given.night("mixers 2;bakers 2;" + Given.dough("x", "4 0 2 0", 99, 9, 200, 5) + Given.oven(6, 200, 1) + SHOP
        + order("x", 15, 900), 0);
    Check.due("busiest when the third joins the others", y.busiestMinute(2), 10);
    Check.due("all three", y.busy(2, 10), 3);
    Check.due("a minute before", y.busy(2, 9), 2);
  }

  /** bakingMinutes: of all batches of an oven; changingMinutes: a change that has not ended counts wholly. */
  private static void minutes() {
    BakeryNight x = Given.night(QUICK + quick("x", 5, 20, 200) + quick("y", 5, 5, 200) + Given.oven(3, 200, 1)
        + Given.oven(2, 20, 1) + SHOP + order("x", 10, 900) + order("y", 10, 901), 0);
    Check.due("four batches", x.bakingMinutes(0), 50);
    Check.due("the fourth one on the shelf of the third", x.stageMinute(3, 4), 7);
    Check.due("in oven 1", x.bakingMinutes(1), 0);
    Check.due("a change that goes on after the night", x.changingMinutes(1), 180);
    Check.due("the night", x.simulate(0), 22);
  }

  private static void lastLoaves() {
    String text = "mixers 4;bakers 4;dough x mix 1 rise 0 shape 1 proof 0 limit 99 bake 10 heat 200 yield 7 keep 60 "
        + "price 100;" + Given.oven(1, 200, 1) + SHOP;
    for (int loaves = 1; loaves <= 14; loaves++) {
      BakeryNight x = Given.night(text + order("x", loaves, 900), 0);
      int left = loaves <= 7 ? 7 - loaves : 14 - loaves;
      int out = loaves <= 7 ? 12 : 22;
      Check.due("surplus of " + loaves, x.surplusLoaves(0), left);
      int[] minutes = {0, out - 1, out, out + 1, out + 59, out + 60, out + 61, 9999};
      int[] values = {0, 0, 100, 98, 1, 0, 0, 0};
      for (int i = 0; i < 8; i++) {
        Check.due("surplus of " + loaves + " at " + minutes[i], x.surplusValue(minutes[i]), left * values[i]);
      }
    }
  }

  /** A loaf is worth price * (keep - a) / keep, rounded down, with a from 0 to keep; minute is from 0 to 9999. */
  private static void values() {
    lastLoaves();
    int[][] cases = {{1, 999, 0, 999}, {1, 999, 1, 0}, {1, 999, 2, 0}, {1440, 999, 0, 999}, {1440, 999, 1, 998},
        {1440, 999, 1438, 1}, {1440, 999, 1439, 0}, {1440, 999, 1440, 0}, {1440, 999, 1441, 0}, {1440, 1, 0, 1},
        {1440, 1, 1, 0}, {60, 0, 0, 0}, {3, 10, 1, 6}, {3, 10, 2, 3}, {60, 999, -1, 0}, {1440, 999, -12, 0}};
    for (int[] c : cases) {
      BakeryNight x = Given.night("dough x mix 1 rise 0 shape 1 proof 0 limit 9 bake 10 heat 200 yield 5 keep " + c[0]
          + " price " + c[1] + ";" + Given.oven(1, 200, 1) + SHOP + order("x", 3, 900), 0);
      Check.due("keep " + c[0] + ", price " + c[1] + ", age " + c[2], x.surplusValue(12 + c[2]), 2 * c[3]);
    }
    BakeryNight none = Check.bakery("");
    Check.due("no night, minute out of range", none.surplusValue(10000), NO_NIGHT);
    none.simulate(0);
    Check.due("minute 0", none.surplusValue(0), 0);
    Check.due("minute 9999", none.surplusValue(9999), 0);
    Check.due("minute -1", none.surplusValue(-1), NONE);
    Check.due("minute 10000", none.surplusValue(10000), NONE);
    // Sixty batches that are mixed for two hours each, so that the last one is baked at 9999 or a minute before.
    for (int start : new int[] {1438, 1439}) {
      BakeryNight x = Given.night("room 10;dough x mix 120 rise 300 shape 120 proof 200 limit 240 bake 40 heat 200 "
          + "yield 5 keep 1 price 8;" + Given.oven(6, 200, 1) + SHOP + order("x", 149, 900)
          + order("x", 147, 901), start);
      Check.due("the last loaves", x.stageMinute(59, 5), start + 7200 + 720 + 120 + 480 + 40);
      Check.due("at 9999", x.surplusValue(9999), start == 1439 ? 32 : 0);
      Check.due("at 9998", x.surplusValue(9998), start == 1438 ? 32 : 0);
    }
  }

  /** The greatest sums: 60 batches, each with the longest stages. */
  private static void greatest() {
    BakeryNight x = Given.night("room 10;dough x mix 120 rise 300 shape 120 proof 300 limit 240 bake 120 heat 300 "
        + "yield 5 keep 1440 price 999;" + Given.oven(1, 20, 1) + SHOP + order("x", 150, 900)
        + order("x", 150, 901), 1439);
    int proofed = 1439 + 120 + 720 + 120 + 720;
    Check.due("all sixty are mixed one by one", x.stageMinute(59, 0), 1439 + 59 * 120);
    Check.due("they wait for the mixer", x.waitingMinutes(0), 120 * 59 * 60 / 2);
    Check.due("they do not wait for the baker", x.waitingMinutes(1), 0);
    Check.due("280 degrees", x.changingMinutes(0), 280);
    Check.due("the first one waits too long", x.ovenOf(0), NONE);
    Check.due("the second one does not", x.stageMinute(1, 4), proofed + 280);
    Check.due("nor does any after it", x.spoiledCount(), 1);
    Check.due("each waits for 160 minutes", x.waitingMinutes(2), 241 + 59 * 160);
    Check.due("59 are baked", x.bakingMinutes(0), 59 * 120);
    Check.due("the last one ends", x.stageMinute(59, 5), proofed + 280 + 59 * 120);
    Check.due("the first loaves go to the first order", x.readyMinute(0), proofed + 280 + 30 * 120 + 30);
    Check.due("there are not enough for the other", x.readyMinute(1), NONE);
    Check.due("the night ends with it", x.simulate(0), proofed + 280 + 59 * 120 - 1439);
  }

  public static void main(String[] args) {
    batches();
    numbers();
    rising();
    ends();
    limits();
    heats();
    choices();
    shelves();
    ovenOrder();
    bakerOrder();
    mixerOrder();
    nightEnds();
    loaves();
    spoiledStages();
    inUse();
    minutes();
    values();
    greatest();
    Check.end("NightEdgeTest");
  }
}
