/** The boundary cases that the document names for the input buffer and the bakery text, a sentence each. */
public final class TextEdgeTest {
  private static final int NONE = BakeryNight.NONE;
  private static final String[] KEYWORDS = ("room cool mixers bakers dough mix rise shape proof limit bake heat yield "
      + "keep price oven shelves rate shop street van order by home").split(" ");
  private static final String[] FIELDS = "mix rise shape proof limit bake heat yield keep price".split(" ");
  private static final int[] LOW = {1, 0, 1, 0, 0, 1, 100, 5, 1, 0};
  private static final int[] HIGH = {120, 300, 120, 300, 240, 120, 300, 200, 1440, 999};
  private static final String KNOWN = Given.RYE + "shop a;shop b;";

  private TextEdgeTest() { }

  // ------------------------------------------------------------ the buffer

  /** The input buffer holds at most 1,600 bytes. feed answers NONE, with no change, if it would exceed 1,600. */
  private static void feeds() {
    for (int before : new int[] {0, 1, 19, 20, 1579, 1580, 1581, 1599, 1600}) {
      BakeryNight x = new BakeryNight();
      Check.feed(x, "#".repeat(before));
      Check.due("feed after " + before + " bytes", x.feed(0x726f6f6d, 0x2032303b, 0x636f6f6c, 0x20393b20, 0x20202020),
          before <= 1580 ? before + 20 : NONE);
      Check.due("length after a feed, beyond", x.truncate(before <= 1580 ? before + 21 : before + 1), false);
      Check.due("length after a feed", x.truncate(before <= 1580 ? before + 20 : before), true);
    }
    BakeryNight x = new BakeryNight();
    for (int i = 1; i <= 80; i++) Check.due("feed " + i, x.feed(0x20202020, 0x0a0a0a0a, 0, -1, 1 << 31), 20 * i);
    for (int i = 0; i < 3; i++) Check.due("feed 81", x.feed(0, 0, 0, 0, 0), NONE);
  }

  /** feed appends the four bytes of each parameter, the most significant byte first: each of the twenty places. */
  private static void places() {
    for (int place = 0; place < 20; place++) {
      for (int sign : new int[] {'#', 128, 255}) {
        int[] words = new int[5];
        for (int i = 0; i < 20; i++) words[i / 4] |= (i == place ? sign : ' ') << 24 - i % 4 * 8;
        BakeryNight x = new BakeryNight();
        x.feed(words[0], words[1], words[2], words[3], words[4]);
        x.parseBakery();
        Check.due("a byte " + sign + " at place " + place, x.errorOffset(), place);
        Check.due("a byte " + sign + " is not valid", x.errorCode(), 1);
      }
    }
    for (int place = 0; place < 17; place++) {
      String text = " ".repeat(place) + "van 1;" + " ".repeat(14);
      BakeryNight x = new BakeryNight();
      Check.feed(x, text);
      Check.due("a statement over the edge of a parameter", x.parseBakery(), 1);
    }
  }

  /** truncate: false, with no change, if length is negative or greater than the length of the buffer. */
  private static void truncates() {
    for (int length : new int[] {0, 1, 19, 20, 21, 1600}) {
      BakeryNight x = new BakeryNight();
      Check.feed(x, " ".repeat(length));
      for (int wrong : new int[] {-1, -length - 1, length + 1, 1601, Integer.MIN_VALUE, Integer.MAX_VALUE}) {
        Check.due("truncate(" + wrong + ") of " + length, x.truncate(wrong), false);
      }
      Check.due("truncate to the same " + length, x.truncate(length), true);
      if (length > 0) Check.due("truncate to one less than " + length, x.truncate(length - 1), true);
      if (length > 0) Check.due("truncate back to " + length, x.truncate(length), false);
      Check.due("truncate to nothing", x.truncate(0), true);
      Check.due("nothing is left", x.truncate(1), false);
    }
  }

  /** A text may fill the buffer: the last byte counts, and the end of such a text is at 1600. */
  private static void fullTexts() {
    Given.fine("van 7;" + " ".repeat(1594), 1);
    Given.fine(" ".repeat(1594) + "van 7;", 1);
    Given.fine("\n".repeat(1600), 0);
    Given.fault(" ".repeat(1599) + "#", 1, 1599);
    Given.fault(" ".repeat(1599) + "v", 1, 1599);
    Given.fault(" ".repeat(1597) + "van", 1, 1600);
    Given.fault(" ".repeat(1595) + "van 7", 1, 1600);
    Given.fault("van 7" + " ".repeat(1595), 1, 1600);
    Given.fault("a".repeat(1600), 1, 0);
    Given.fault("room " + "0".repeat(1595), 1, 5);
    Given.fault("shop " + "a".repeat(1595), 1, 5);
    Given.fault(";".repeat(1600), 1, 0);
    StringBuilder t = new StringBuilder(KNOWN);
    for (int i = 0; i < 24; i++) t.append("order a rye 1by ").append(i).append(';');
    Given.fine(t + " ".repeat(1600 - t.length()), 27);
    BakeryNight x = Check.bakery(t + " ".repeat(1600 - t.length()));
    Check.due("a full text is read to its end", x.orderCount(), 24);
  }

  // ------------------------------------------------------------ signs and tokens

  /** Words of a to z, numbers of digits, blanks 32 and 10, the semicolon; no other byte is valid: all 256 of them. */
  private static void signs() {
    for (int sign = 0; sign < 256; sign++) {
      char c = (char) sign;
      String text = "shop a" + c + "b;";
      if (c >= 'a' && c <= 'z') {
        Given.fine(text, 1);
        Given.fine("shop " + c + ";", 1);
      } else if (c == ' ' || c == '\n') {
        Given.fault(text, 1, 7);
        Given.fine("shop " + c + "a" + c + ";" + c, 1);
      } else {
        Given.fault(text, 1, c == ';' ? 7 : 6);
        Given.fault("shop " + c + "a;", 1, 5);
      }
      if (c >= '0' && c <= '9') {
        Given.fine("cool 1" + c + ";", 1);
        Given.fine("cool 10" + c + ";", 1);
      } else if (c == ' ' || c == '\n') {
        Given.fine("cool 1" + c + ";", 1);
        Given.fault("cool 1" + c + "0;", 1, 7);
      } else {
        Given.fault("cool 1" + c + ";", 1, c == ';' ? 7 : 6);
        if (c != ';') Given.fault("cool " + c, 1, 5);
      }
      if (c == ' ' || c == '\n') Given.fine("" + c, 0);
      else Given.fault("" + c, 1, 0);
    }
  }

  /** A number has 1 to 4 digits; with more of them the token cannot stand there, whatever its value is. */
  private static void numbers() {
    Given.fine("cool 0;", 1);
    Given.fine("cool 00;", 1);
    Given.fine("cool 000;", 1);
    Given.fine("cool 0000;", 1);
    Given.fault("cool 00000;", 1, 5);
    Given.fine("cool 0120;", 1);
    Given.fault("cool 0121;", 2, 5);
    Given.fault("cool 00120;", 1, 5);
    Given.fault("cool 9999;", 2, 5);
    Given.fault("cool 10000;", 1, 5);
    Given.fault("cool 00121;", 1, 5);
    Given.fault("cool 4294967296;", 1, 5);
    Given.fault("cool 18446744073709551616;", 1, 5);
    Given.fine(KNOWN + "order a rye 0200 by 1439;", 4);
    Given.fault(KNOWN + "order a rye 00200 by 1439;", 1, KNOWN.length() + 12);
    Given.fault(KNOWN + "order a rye 200 by 01439;", 1, KNOWN.length() + 19);
    for (int i = 0; i < 10; i++) {
      String before = fields(i, 0) + FIELDS[i] + " ";
      Given.fine(before + String.format("%04d", HIGH[i]) + rest(i), 1);
      Given.fault(before + String.format("%05d", HIGH[i]) + rest(i), 1, before.length());
      Given.fault(before + "9999" + rest(i), 2, before.length());
      Given.fault(before + rest(i), 1, before.length() + (i == 9 ? 0 : 1));
    }
    Check.due("four digits are read as a number", Check.bakery("room 0031;").setRoom(20), 31);
  }

  /** The start of a dough statement up to a field. */
  private static String fields(int upTo, int plus) {
    StringBuilder t = new StringBuilder("dough q ");
    for (int i = 0; i < upTo; i++) t.append(FIELDS[i]).append(' ').append(LOW[i] + plus).append(' ');
    return t.toString();
  }

  private static String rest(int after) {
    StringBuilder t = new StringBuilder();
    for (int i = after + 1; i < 10; i++) t.append(' ').append(FIELDS[i]).append(' ').append(LOW[i]);
    return t.append(';').toString();
  }

  /** A name is a word of 1 to 8 letters; a longer word cannot stand anywhere. */
  private static void names() {
    String eight = "abcdefgh";
    for (int length = 1; length <= 8; length++) {
      String name = "zyxwvuts".substring(0, length);
      Given.fine("shop " + name + ";street home " + name + " 5;street " + name + " home 5;", 3);
      Given.fine(Given.dough(name, "1 1 1 1", 1, 1, 100, 5) + "shop " + name + ";order " + name + " " + name
          + " 5 by 5;", 3);
    }
    String nine = "abcdefghi";
    Given.fault("shop " + nine + ";", 1, 5);
    Given.fault(Given.dough(nine, "1 1 1 1", 1, 1, 100, 5), 1, 6);
    String known = Given.dough(eight, "1 1 1 1", 1, 1, 100, 5) + "shop " + eight + ";";
    Given.fault(known + "street " + nine + " home 5;", 1, known.length() + 7);
    Given.fault(known + "street home " + nine + " 5;", 1, known.length() + 12);
    Given.fault(known + "order " + nine + " " + eight + " 5 by 5;", 1, known.length() + 6);
    Given.fault(known + "order " + eight + " " + nine + " 5 by 5;", 1, known.length() + 15);
    Given.fault(known + "shop " + nine + ";", 1, known.length() + 5);
    Given.fault(known + "shop " + eight + ";", 3, known.length() + 5);
    Given.fault("roommmmmm 20;", 1, 0);
    Given.fault("shop a;street home " + "a".repeat(13) + " 5;", 1, 19);
    Given.fault("shop a;shop " + "a".repeat(64) + ";", 1, 12);
  }

  /** A keyword is no name, but a word that is a letter longer or shorter than one, or differs in one, may be. */
  private static void keywords() {
    for (String word : KEYWORDS) {
      Given.fault("shop " + word + ";", 1, 5);
      Given.fault("dough " + word + " mix 1", 1, 6);
      Given.fault(KNOWN + "order " + word + " rye 5 by 5;", 1, KNOWN.length() + 6);
      Given.fault(KNOWN + "order a " + word + " 5 by 5;", 1, KNOWN.length() + 8);
      String last = word.equals("home") ? "home 5;" : word + " 5;";
      if (word.equals("home")) Given.fault(KNOWN + "street home " + last, 3, KNOWN.length() + 12);
      else Given.fault(KNOWN + "street home " + last, 1, KNOWN.length() + 12);
      if (word.equals("home")) Given.fine(KNOWN + "street " + word + " a 5;", 4);
      else Given.fault(KNOWN + "street " + word + " a 5;", 1, KNOWN.length() + 7);
      String changed = word.substring(0, word.length() - 1) + (word.endsWith("q") ? "x" : "q");
      Given.fine("shop " + word + "q;shop " + word.substring(0, word.length() - 1) + ";shop q" + word.substring(1)
          + ";shop " + changed + ";", 4);
      Given.fault(word + "q 20;", 1, 0);
      Given.fault(word.substring(0, word.length() - 1) + " 20;", 1, 0);
    }
  }

  // ------------------------------------------------------------ the grammar

  private static final String[] STATEMENTS = {"room 20", "cool 20", "mixers 2", "bakers 2",
      "dough q mix 1 rise 1 shape 1 proof 1 limit 1 bake 1 heat 100 yield 5 keep 1 price 1",
      "oven shelves 1 heat 20 rate 1", "shop q", "street home a 5", "street a home 5", "street a b 5", "van 5",
      "order a rye 5 by 5"};

  /** Each token has its place; the offset is that of the token at fault, or the length if the text ends too early. */
  private static void grammar() {
    for (String statement : STATEMENTS) {
      String[] tokens = (statement + " ;").split(" ");
      Given.fine(KNOWN + statement + ";", 4);
      Given.fine(KNOWN + "\n" + String.join("\n ", tokens) + "\n", 4);
      StringBuilder before = new StringBuilder(KNOWN);
      for (int i = 0; i < tokens.length; i++) {
        String text = before.toString();
        if (i > 0) tooEarly(text);
        for (String wrong : new String[] {";", "#", "5", "by", "00005", "abcdefghi", "A"}) {
          boolean same = wrong.equals(tokens[i]) || wrong.equals("5") && Character.isDigit(tokens[i].charAt(0));
          if (!same && !(i == 0 && wrong.equals(";"))) Given.fault(text + wrong + " " + tail(tokens, i + 1), 1,
              text.length());
        }
        // A name or place that is left out or doubled may leave one where the next has to stand.
        boolean apart = i > 1 || i == 1 && !statement.startsWith("street") && !statement.startsWith("order");
        if (apart) Given.fault(text + tail(tokens, i + 1), 1, text.length());
        before.append(tokens[i]).append(' ');
        if (apart) Given.fault(before + tokens[i] + " " + tail(tokens, i + 1), 1, before.length());
      }
      Given.fault(KNOWN + statement + " shop z;", 1, KNOWN.length() + statement.length() + 1);
      Given.fault(KNOWN + ";" + statement + ";", 1, KNOWN.length());
    }
  }

  /** The text ends where a token is missing: with no blanks behind it, with one, and with some. */
  private static void tooEarly(String text) {
    String bare = text.trim();
    Given.fault(bare, 1, bare.length());
    Given.fault(bare + " ", 1, bare.length() + 1);
    Given.fault(bare + " \n ", 1, bare.length() + 3);
  }

  private static String tail(String[] tokens, int from) {
    StringBuilder t = new StringBuilder();
    for (int i = from; i < tokens.length; i++) t.append(tokens[i]).append(' ');
    return t.toString();
  }

  // ------------------------------------------------------------ numbers in range, and that they are taken

  private static void range(String before, int low, int high, String after) {
    int statements = (before + after).split(";", -1).length - 1;
    Given.fine(before + low + after, statements);
    Given.fine(before + (low + 1) + after, statements);
    Given.fine(before + high + after, statements);
    Given.fine(before + (high - 1) + after, statements);
    if (low > 0) Given.fault(before + (low - 1) + after, 2, before.length());
    if (low > 0) Given.fault(before + 0 + after, 2, before.length());
    Given.fault(before + (high + 1) + after, 2, before.length());
    Given.fault(before + 9999 + after, 2, before.length());
  }

  private static void ranges() {
    range("room ", 10, 40, ";");
    range("cool ", 0, 120, ";");
    range("mixers ", 1, 4, ";");
    range("bakers ", 1, 4, ";");
    range("oven shelves ", 1, 6, " heat 20 rate 1;");
    range("oven shelves 1 heat ", 20, 300, " rate 1;");
    range("oven shelves 1 heat 20 rate ", 1, 50, ";");
    range("shop a;street a home ", 1, 120, ";");
    range("van ", 1, 2000, ";");
    range(KNOWN + "order a rye ", 1, 200, " by 5;");
    range(KNOWN + "order a rye 5 by ", 0, 1439, ";");
    for (int i = 0; i < 10; i++) range(fields(i, 0) + FIELDS[i] + " ", LOW[i], HIGH[i], rest(i));
  }

  /** 24, 30, 1 and 1 without a statement of its own. */
  private static void usual() {
    Check.due("the room without a statement", new BakeryNight().setRoom(10), 24);
    Check.due("the room of an empty text", Check.bakery("").setRoom(10), 24);
    Check.due("the coldest room", Check.bakery("room 10;").setRoom(24), 10);
    Check.due("the warmest room", Check.bakery("room 40;").setRoom(24), 40);
    String rest = Given.dough("q", "1 0 1 0", 99, 1, 200, 5) + Given.oven(6, 200, 1)
        + "shop a;street home a 1;van 99;order a q 25 by 99;";
    int[] mixers = {1, 1, 2, 3, 4};
    for (int n = 0; n <= 4; n++) {
      String given = n == 0 ? "" : "mixers " + n + ";bakers " + n + ";";
      BakeryNight x = Given.night(given + rest, 0);
      Check.due("mixers " + n, x.busy(0, 0), mixers[n]);
      Check.due("bakers " + n, x.busy(1, 1), mixers[n]);
    }
    for (int cool : new int[] {0, 1, 30, 119, 120}) {
      BakeryNight x = Given.night((cool == 30 ? "" : "cool " + cool + ";") + rest, 0);
      Check.due("cool " + cool, x.readyMinute(0) - x.stageMinute(4, 5), cool);
    }
  }

  // ------------------------------------------------------------ errors 3, 4 and 5

  private static void defined() {
    Given.fault("room 20;room 20;", 3, 8);
    Given.fault("cool 0;cool 0;", 3, 7);
    Given.fault("mixers 1;mixers 1;", 3, 9);
    Given.fault("bakers 1;bakers 1;", 3, 9);
    Given.fault("room 20;cool 1;bakers 1;mixers 1;  room", 3, 35);
    Given.fault("room 20;room;", 3, 8);
    Given.fault("room 20;room 99999;", 3, 8);
    Given.fine("room 20;cool 20;mixers 2;bakers 2;", 4);
    Given.fault(Given.RYE + "dough rye", 3, Given.RYE.length() + 6);
    Given.fault("shop rye;" + Given.RYE + "shop rye;", 3, Given.RYE.length() + 14);
    Given.fine("shop rye;" + Given.RYE, 2);
    Given.fine(Given.RYE + "shop rye;", 2);
    Given.fault(Given.times(6, "shop #;") + "shop f;", 3, 47);
    Given.fine(Given.times(6, "shop #;") + "shop g;", 7);
    String five = Given.times(5,
        "dough # mix 1 rise 0 shape 1 proof 0 limit 0 bake 1 heat 100 yield 5 keep 1 price 0;");
    Given.fault(five + "dough e", 3, five.length() + 6);
    Given.fault(KNOWN + "street home home 5;", 3, KNOWN.length() + 12);
    Given.fault(KNOWN + "street a a 5;", 3, KNOWN.length() + 9);
    Given.fault(KNOWN + "street b b", 3, KNOWN.length() + 9);
    Given.fine(KNOWN + "street a b 5;street b a 5;street a b 5;street home b 5;street home a 5;", 8);
  }

  private static void undefined() {
    Given.fault("shop a;street home b 5;shop b;", 4, 19);
    Given.fault("shop a;street b home 5;shop b;", 4, 14);
    Given.fine("shop a;shop b;street home b 5;", 3);
    Given.fault("street home a", 4, 12);
    Given.fault("street a a 5;", 4, 7);
    Given.fault(Given.RYE + "street home rye 5;", 4, Given.RYE.length() + 12);
    Given.fault(Given.RYE + "street rye home 5;", 4, Given.RYE.length() + 7);
    Given.fault(KNOWN + "order c rye 5 by 5;", 4, KNOWN.length() + 6);
    Given.fault(KNOWN + "order a bun 5 by 5;", 4, KNOWN.length() + 8);
    Given.fault(KNOWN + "order rye rye 5 by 5;", 4, KNOWN.length() + 6);
    Given.fault(KNOWN + "order a a 5 by 5;", 4, KNOWN.length() + 8);
    Given.fault(KNOWN + "order a rye 5 by 5;order b bun 5 by 5;" + Given.BUN, 4, KNOWN.length() + 27);
    Given.fault("shop a;order a rye 5 by 5;" + Given.RYE, 4, 15);
    Given.fault(Given.RYE + "order a rye 5 by 5;shop a;", 4, Given.RYE.length() + 6);
    BakeryNight x = Check.bakery(KNOWN);
    Check.due("names of the text before are forgotten", Check.parse(x, "street home a 5;"), NONE);
    Check.due("so that they are not defined", x.errorCode(), 4);
    Check.due("names of a text with an error are forgotten", Check.parse(x, "shop a;shop b;"), 2);
  }

  /** At most 6 doughs, 4 ovens, 7 shops, 20 streets, 3 vans and 24 orders; one more is at fault at its first word. */
  private static void counts() {
    String dough = "dough # mix 1 rise 0 shape 1 proof 0 limit 0 bake 1 heat 100 yield 5 keep 1 price 0;";
    count("", dough, 6, "dough z mix 1");
    count("", "oven shelves 1 heat 20 rate 1;", 4, "oven shelves 1 heat 20 rate 1;");
    count("", "shop #;", 7, "shop z;");
    count(KNOWN, "street home a 5;", 20, "street home a 5;");
    count(KNOWN, "street b a 5;", 20, "street a a 5;");
    count("", "van 5;", 3, "van 5;");
    count(KNOWN, "order a rye 5 by 5;", 24, "order a rye 5 by 5;");
    Given.fault(Given.times(7, "shop #;") + "shop a;", 5, 49);
    Given.fault(Given.times(6, dough) + "dough a", 5, 6 * (dough.length()));
    Given.fault(Given.FULL + "van", 5, Given.FULL.length());
    Given.fault(Given.FULL + " van", 5, Given.FULL.length() + 1);
    Given.fault(Given.FULL + "vans", 1, Given.FULL.length());
    BakeryNight x = Check.bakery(Given.FULL);
    Check.due("a sixth dough", x.orderedLoaves(5), 50);
    Check.due("no seventh dough", x.orderedLoaves(6), NONE);
    Check.due("a fourth oven", x.breakOven(3, false), true);
    Check.due("no fifth oven", x.breakOven(4, false), false);
    Check.due("a seventh shop", x.distance(NONE, 6), 15);
    Check.due("no eighth shop", x.distance(NONE, 7), NONE);
    Check.due("a twentieth street", x.closeStreet(19, true), true);
    Check.due("it led to the seventh shop", x.distance(NONE, 6), NONE);
    Check.due("no twenty-first street", x.closeStreet(20, true), false);
    Check.due("a twenty-fourth order", x.moveOrder(23, 5), 903);
    Check.due("no twenty-fifth order", x.moveOrder(24, 5), NONE);
    x.moveOrder(23, 903);
    x.simulate(0);
    Check.due("a third van is needed", x.departureMinute(2) != NONE, true);
  }

  private static void count(String before, String statement, int most, String more) {
    int statements = before.split(";", -1).length - 1;
    Given.fine(before + Given.times(most - 1, statement), statements + most - 1);
    String full = before + Given.times(most, statement);
    Given.fine(full, statements + most);
    Given.fault(full + more, 5, full.length());
    Given.fault(full + " \n" + more.split(" ")[0], 5, full.length() + 2);
    Given.fault(full + more.split(" ")[0] + "x", 1, full.length());
  }

  /** The error with the smallest offset is reported, whatever its code is; at one offset, the smallest code. */
  private static void smallest() {
    Given.fault("room 41;#", 2, 5);
    Given.fault("room 20;room 41;#", 3, 8);
    Given.fault("#room 41;", 1, 0);
    Given.fault("street q home 0;", 4, 7);
    Given.fault("van 0;van 0;", 2, 4);
    Given.fault("van 1;van 1;van 1;van 0;", 5, 18);
    Given.fault("van 1;van 1;van 1 van 1;", 1, 18);
    Given.fault("shop a;shop a", 3, 12);
    Given.fault("shop a shop a", 1, 7);
    Given.fault(KNOWN + "order q q 0 by 1440;", 4, KNOWN.length() + 6);
    Given.fault(KNOWN + "order a q 0 by 1440;", 4, KNOWN.length() + 8);
    Given.fault(KNOWN + "order a rye 0 by 1440;", 2, KNOWN.length() + 12);
    Given.fault(KNOWN + "order a rye 1 by 1440", 2, KNOWN.length() + 17);
    Given.fault("room 00041;", 1, 5);
    Given.fault("shop a;street a " + "a".repeat(9) + " 5;", 1, 16);
    Given.fault("dough q mix 0 rise 301", 2, 12);
    Given.fault("dough q mix 1 rise 301", 2, 19);
  }

  // ------------------------------------------------------------ promises 4 to 6

  private static void parses() {
    BakeryNight x = new BakeryNight();
    Check.due("no call yet: code", x.errorCode(), 0);
    Check.due("no call yet: offset", x.errorOffset(), NONE);
    Check.due("an empty text has no statements", x.parseBakery(), 0);
    Check.due("an empty text has no error", x.errorCode(), 0);
    Check.due("an empty text has no offset", x.errorOffset(), NONE);
    String[] texts = {"#", "room 9;", "cool 1;cool", "street home x", "van 1;van 1;van 1;van"};
    int[] offsets = {0, 5, 7, 12, 18};
    for (int i = 0; i < 5; i++) {
      Check.due("error " + (i + 1), Check.parse(x, texts[i]), NONE);
      Check.due("code " + (i + 1), x.errorCode(), i + 1);
      Check.due("offset of error " + (i + 1), x.errorOffset(), offsets[i]);
      Check.due("the buffer is empty", x.truncate(1), false);
      Check.due("so that a feed begins it", x.feed(0, 0, 0, 0, 0), 20);
      Check.due("a refused truncate", x.truncate(21), false);
      x.truncate(0);
      x.setRoom(20);
      x.undo();
      Check.due("the code stays until the next parse", x.errorCode(), i + 1);
      Check.due("the offset stays until the next parse", x.errorOffset(), offsets[i]);
    }
    Check.due("a right text", Check.parse(x, "van 1;"), 1);
    Check.due("the code is gone", x.errorCode(), 0);
    Check.due("the offset is gone", x.errorOffset(), NONE);
    Check.due("the buffer is empty after a right text", x.truncate(1), false);
  }

  /** On success the bakery is replaced: all of it, whatever was before, and as if it were the first one. */
  private static void replaced() {
    View.Maker[] before = {Given::changed, Given::simulated, Given::full, Given::crowded};
    for (String text : new String[] {"", Given.RICH, Given.FULL, "shop a;street a home 5;van 3;"}) {
      for (View.Maker maker : before) {
        View.same("replaced by " + text + ": ", View.all(maker, x -> {
          x.truncate(0);
          return Check.parse(x, text);
        }), View.all(() -> Check.bakery(text), x -> 0));
      }
    }
  }

  public static void main(String[] args) {
    feeds();
    places();
    truncates();
    fullTexts();
    signs();
    numbers();
    names();
    keywords();
    grammar();
    ranges();
    usual();
    defined();
    undefined();
    counts();
    smallest();
    parses();
    replaced();
    Check.end("TextEdgeTest");
  }
}
