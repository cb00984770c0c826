/** Counts the answers that are not as due, and tells each. */
final class Checks {
  private static int wrong = 0;
  private static int seen = 0;

  interface Call {
    void run();
  }

  private Checks() {}

  static void due(String call, Object got, Object want) {
    seen++;
    if (!want.equals(got)) {
      wrong++;
      System.out.println(call + " answered " + got + ", due is " + want);
    }
  }

  /** The call has to throw just that exception, and to leave everything as it was. */
  static void refused(FirstdanceAgency x, String name, Class<?> want, Call call) {
    String before = picture(x);
    Class<?> got = null;
    try {
      call.run();
    } catch (RuntimeException e) {
      got = e.getClass();
    }
    due(name + " throws", String.valueOf(got), String.valueOf(want));
    due(name + " leaves behind it", picture(x), before);
  }

  /** Nearly all that can be asked of an agency. */
  static String picture(FirstdanceAgency x) {
    StringBuilder text = new StringBuilder();
    text.append(x.digest());
    for (int a = 0; a < 6; a++) {
      for (int b = 0; b < 6; b++) {
        text.append(' ').append(x.drive(a, b));
      }
    }
    for (int w = 0; w < x.desk(3); w++) {
      text.append('\n').append(x.tell(w)).append(" | ").append(x.songs(w)).append(" | ").append(x.key(w));
      for (int what = 0; what <= 12; what++) {
        text.append(' ').append(x.ofWedding(w, what));
      }
      for (int what = 0; what <= 3; what++) {
        text.append(' ').append(x.filling(w, what));
      }
      for (int p = 0; p < x.desk(1); p++) {
        text.append(x.free(p, w) ? " free" : " busy");
      }
    }
    for (int what = 0; what <= 12; what++) {
      text.append(' ').append(x.desk(what));
    }
    return text.toString();
  }

  static void end(String name) {
    System.out.println(name + ": " + seen + " checks, " + wrong + " wrong");
    if (wrong != 0 || seen == 0) {
      System.exit(1);
    }
  }
}
