/** Helps the tests: compares answers, prints the wrong ones and feeds texts. */
final class Check {
  private static int wrong = 0;
  private static int looked = 0;

  private Check() { }

  static void due(String what, long got, long want) {
    looked++;
    if (got != want) {
      wrong++;
      System.out.println(what + " answered " + got + ", due is " + want);
    }
  }

  static void due(String what, boolean got, boolean want) {
    due(what, got ? 1 : 0, want ? 1 : 0);
  }

  /** A call of the face that may throw. */
  interface Call {
    long answer();
  }

  static final int ILLEGAL_STATE = -1001;
  static final int OUT_OF_BOUNDS = -1002;
  static final int OTHER_THROW = -1003;

  /** The answer of a call, or a number that stands for the class of what it throws. */
  static long answerOf(Call call) {
    try {
      return call.answer();
    } catch (RuntimeException e) {
      if (e.getClass() == IllegalStateException.class) {
        return ILLEGAL_STATE;
      }
      return e.getClass() == IndexOutOfBoundsException.class ? OUT_OF_BOUNDS : OTHER_THROW;
    }
  }

  static void feed(BakeryNight x, String text) {
    int start = 0;
    for (int i = 0; i < text.length(); i += 20) {
      int[] words = new int[5];
      for (int k = 0; k < 20; k++) {
        int sign = i + k < text.length() ? text.charAt(i + k) & 255 : 0;
        words[k / 4] |= sign << 24 - k % 4 * 8;
      }
      start = x.feed(words[0], words[1], words[2], words[3], words[4]);
      if (start == BakeryNight.NONE) {
        throw new IllegalArgumentException("the test's text is too long");
      }
    }
    x.truncate(text.length());
  }

  static int parse(BakeryNight x, String text) {
    feed(x, text);
    return x.parseBakery();
  }

  static BakeryNight bakery(String text) {
    BakeryNight x = new BakeryNight();
    if (parse(x, text) == BakeryNight.NONE) {
      throw new IllegalArgumentException("fault " + x.errorCode() + " at " + x.errorOffset() + " in " + text);
    }
    return x;
  }

  static void end(String name) {
    System.out.println(name + ": " + looked + " answers looked at, " + wrong + " not as due");
    if (wrong != 0) {
      System.exit(1);
    }
  }
}
