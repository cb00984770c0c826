/** What stands above the promises and holds for all of them: how many calls, rounding, sets, days, refusals. */
public final class Bounds00Test {
  private static final int ALL = Bounds.ALL;

  public static void main(String[] args) {
    run();
    Checks.end("Bounds00Test");
  }

  static void run() {
    Bounds.runAll(Bounds00Test.class, 0, 0);
  }

  /** As many as there can be, each as dear to reckon as it can be: five of ten who can all stand in each place. */
  private static FirstdanceAgency dear() {
    FirstdanceAgency x = new FirstdanceAgency();
    for (int p = 0; p < 10; p++) {
      x.player(63, ALL, p % 6, 90 + p);
    }
    for (int town = 0; town < 5; town++) {
      x.road(town, town + 1, 1);
    }
    for (int b = 0; b < 6; b++) {
      x.band(675);
    }
    for (int w = 0; w < 14; w++) {
      x.ask(w % 6, 40, w % 6, 10 + w % 3, 1 + w % 3, ALL);
    }
    return x;
  }

  static void promise00FiveHundredAndTwelveCalls() {
    FirstdanceAgency x = dear();
    int calls = 10 + 5 + 6 + 14;
    long first = x.digest();
    calls++;
    while (calls < 508) {
      x.plan(40, true);
      x.digest();
      calls += 2;
    }
    Bounds.due("calls so far", calls, 508);
    Bounds.due("the 509th: ten for two of three, of which these cost more", x.plan(40, true), 2 + 4);
    Bounds.due("the 510th", x.filling(13, 2), 252);
    Bounds.due("the 511th", x.tell(13), "13 on day 40 in 1, asked");
    Bounds.due("the 512th", x.digest(), first);
  }

  static void promise00FiveHundredAndTwelveCallsThatTell() {
    FirstdanceAgency x = Bounds.four();
    int calls = 5;
    while (calls < 510) {
      x.feud(0, 1 + calls % 3, calls % 2 == 0);
      calls++;
    }
    x.song(15, 11, 9, 9);
    Bounds.due("the 512th", x.song(15, 11, 9, 2), 9);
  }

  /** Each division has a rest here: 8 * 6 / 5, 59 / 5, 59 / 10, 59 * 70 / 100, 3 * 6 / 5, 3 * 3 / 4, 3000 / 11. */
  static void promise00WhatIsDividedIsRoundedDown() {
    FirstdanceAgency x = Bounds.solo(8);
    x.ask(0, 10, 0, 10, 1, 0);
    Bounds.due("price", x.fix(0), 59);
    Bounds.due("a fifth", x.desk(8), 11);
    Bounds.due("70 hundredths", x.cancel(0), 41);
    x.ask(0, 10, 0, 10, 1, 0);
    x.fix(1);
    x.ill(0, 10);
    Bounds.due("a fifth back, and a tenth", x.ofWedding(1, 10), 11 - 11 - 5);
    FirstdanceAgency y = Bounds.solo(3);
    y.learn(0, 3);
    y.song(1, 1, 5, 8);
    y.ask(0, 0, 0, 10, 1, 0);
    Bounds.due("price", y.fix(0), 53);
    Bounds.due("quarters alone are rounded up", y.late(0, 31), 3);
    y.pass(1);
    Bounds.due("extra", y.ofWedding(0, 10), 53 + 2);
    Bounds.due("earned", y.ofPlayer(0, 5), 3 + 2);
    Bounds.due("a share", y.ofSong(0, 4), 272);
    Bounds.due("the other share", y.ofSong(1, 4), 727);
  }

  static void promise00ASetIsTheSumOf2ToItsNumbers() {
    FirstdanceAgency x = new FirstdanceAgency();
    for (int p = 0; p < 10; p++) {
      x.player(p == 3 || p == 9 ? 32 : 31, 1 << 15, 0, 1);
    }
    x.feud(0, 9, true);
    x.feud(0, 4, true);
    Bounds.due("feuds with 4 and 9", x.ofPlayer(0, 4), 16 + 512);
    x.band(2 * 243);
    x.ask(0, 5, 0, 10, 1, 32768);
    Bounds.due("those who play the instrument 5, and know the song 15", x.filling(0, 0), 8 + 512);
    for (int w = 1; w < 14; w++) {
      x.ask(0, w == 13 ? 7 : 6, 0, 10, 1, 0);
    }
    Bounds.due("the wedding 13", x.plan(7, true), 8192);
    x.fix(13);
    Bounds.due("its players", x.ofWedding(13, 7), 8 + 512);
    Bounds.due("of nobody", x.ofWedding(0, 7), 0);
  }

  static void promise00NoneIsBelow0() {
    FirstdanceAgency x = Bounds.asked();
    Bounds.due("no way", x.drive(0, 1), -1);
    Bounds.due("no road, no way", x.road(2, 3, 0), -1);
    x.ask(0, 40, 5, 10, 1, 0);
    Bounds.due("no filling", x.filling(2, 0), -1);
    Bounds.due("no cost", x.filling(2, 1), -1);
    Bounds.due("no such player", x.key(2), -1);
    x.cancel(0);
    Bounds.due("no place", x.ofWedding(0, 11), -1);
  }

  static void promise00TodayIs0AtFirstAndADayTo365() {
    FirstdanceAgency x = new FirstdanceAgency();
    for (int day = 0; day < 365; day++) {
      Bounds.due("today", x.desk(0), day);
      Bounds.due("then", x.pass(1), day + 1);
    }
    Bounds.refused(x, "366", Bounds.STATE, () -> x.pass(1));
  }

  /** One call of each method that can be refused, for each exception that it has, behind one another. */
  static void promise00WhatThrowsChangesNothing() {
    FirstdanceAgency x = dear();
    x.fix(0);
    x.fix(1);
    x.late(0, 50);
    x.ill(9, 40);
    x.cancel(5);
    x.pass(1);
    String before = Checks.picture(x);
    Checks.Call[] state = {() -> x.player(1, 0, 0, 1), () -> x.band(1), () -> x.ask(0, 40, 0, 10, 1, 0),
        () -> x.fix(0), () -> x.cancel(5), () -> x.late(2, 0), () -> x.wouldCancel(2)};
    Checks.Call[] argument = {() -> x.player(0, 0, 0, 1), () -> x.learn(0, -1), () -> x.song(0, 0, 0, 1),
        () -> x.feud(1, 1, true), () -> x.road(1, 1, 1), () -> x.band(0), () -> x.ask(0, 0, 0, 10, 1, 0),
        () -> x.ill(0, 0), () -> x.late(0, 241), () -> x.pass(61), () -> x.ofPlayer(0, 9), () -> x.ofSong(0, 6),
        () -> x.ofBand(0, 9), () -> x.ofWedding(0, 13), () -> x.filling(0, 4), () -> x.set(1024, true),
        () -> x.desk(13), () -> x.wouldLose(0, 0), () -> x.plan(366, true)};
    Checks.Call[] index = {() -> x.player(1, 0, 6, 1), () -> x.learn(10, 1), () -> x.song(16, 0, 0, 9),
        () -> x.feud(0, 10, true), () -> x.road(0, 6, 1), () -> x.ask(6, 40, 0, 10, 1, 0), () -> x.fix(14),
        () -> x.cancel(14), () -> x.ill(10, 40), () -> x.late(14, 0), () -> x.ofPlayer(10, 0), () -> x.ofSong(16, 0),
        () -> x.ofBand(6, 0), () -> x.ofWedding(14, 0), () -> x.drive(0, 6), () -> x.free(0, 14),
        () -> x.filling(14, 0), () -> x.songs(14), () -> x.tell(14), () -> x.wouldLose(10, 40),
        () -> x.wouldCancel(14), () -> x.key(14)};
    all(x, "state", Bounds.STATE, state);
    all(x, "argument", Bounds.ARGUMENT, argument);
    all(x, "index", Bounds.INDEX, index);
    Bounds.due("behind them all", Checks.picture(x), before);
  }

  private static void all(FirstdanceAgency x, String name, Class<?> thrown, Checks.Call[] calls) {
    for (int k = 0; k < calls.length; k++) {
      Bounds.refused(x, name + " " + k, thrown, calls[k]);
    }
  }

  /** Whatever is only asked is answered likewise when it is asked again. */
  static void promise00WhatAsksChangesNothing() {
    FirstdanceAgency x = dear();
    x.fix(0);
    x.fix(1);
    x.late(0, 50);
    String before = Checks.picture(x);
    for (int p = 0; p < 10; p++) {
      x.wouldLose(p, 40);
      x.set(1023 - (1 << p), true);
      for (int what = 0; what <= 8; what++) {
        x.ofPlayer(p, what);
      }
    }
    x.plan(40, false);
    x.wouldCancel(0);
    x.isSound();
    Bounds.due("behind them all", Checks.picture(x), before);
  }
}
