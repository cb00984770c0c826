import java.lang.reflect.Field;
import java.math.BigInteger;

/** Both sides of each boundary that the document names in the promises 25 to 30, and in the sections they lean on. */
public final class Bounds25To30Test {
  private static final int ALL = Bounds.ALL;

  public static void main(String[] args) {
    run();
    Checks.end("Bounds25To30Test");
  }

  static void run() {
    Bounds.runAll(Bounds25To30Test.class, 25, 30);
  }

  private static FirstdanceAgency onDay(int day) {
    FirstdanceAgency x = Bounds.four();
    Bounds.passTo(x, day);
    return x;
  }

  // ---- 25: wouldLose

  static void promise25PlayersThatAreThere() {
    Bounds.numbers(Bounds::empty, Bounds::four, 4, (x, v) -> x.wouldLose(v, 5));
  }

  static void promise25DayIsTodayTo365() {
    for (int today : new int[] {0, 1, 7, 364, 365}) {
      Bounds.range(() -> onDay(today), Bounds.ARGUMENT, today, 365, (x, v) -> x.wouldLose(0, v));
    }
  }

  static void promise25TheFirstNamedIsThrown() {
    FirstdanceAgency x = onDay(3);
    Bounds.refused(x, "player and day", Bounds.INDEX, () -> x.wouldLose(4, 2));
    Bounds.refused(x, "player and day", Bounds.INDEX, () -> x.wouldLose(-1, 366));
  }

  /** So many as it says, and nothing is changed; then as many as illness loses. */
  private static void loses(FirstdanceAgency x, int player, int day, int want) {
    String before = Checks.picture(x);
    Bounds.due("would lose", x.wouldLose(player, day), want);
    Bounds.due("changed nothing", Checks.picture(x), before);
    Bounds.due("does lose", x.ill(player, day), want);
    Bounds.due("would lose no more", x.wouldLose(player, day), 0);
  }

  static void promise25NoneOneAndAllOfThatDay() {
    for (int fixed = 0; fixed <= 3; fixed++) {
      FirstdanceAgency x = Bounds.solo(8);
      for (int k = 0; k < 3; k++) {
        x.ask(k, 5, 0, 10 + 2 * k, 2, 0);
      }
      x.ask(0, 6, 0, 10, 2, 0);
      x.fix(3);
      for (int k = 0; k < fixed; k++) {
        x.fix(k);
      }
      loses(x, 0, 5, fixed);
      Bounds.due("of another day", x.wouldLose(0, 6), 1);
      Bounds.due("of a day without any", x.wouldLose(0, 7), 0);
    }
  }

  static void promise25WithAndWithoutAnotherFilling() {
    FirstdanceAgency x = Bounds.fixed();
    Bounds.due("1 can come", x.wouldLose(0, 40), 0);
    x.ill(1, 40);
    loses(x, 0, 40, 1);
    Bounds.due("the next day 1 can come", x.wouldLose(0, 41), 0);
  }

  static void promise25OneWhoDoesNotPlayIt() {
    FirstdanceAgency x = Bounds.fixed();
    loses(x, 1, 40, 0);
  }

  static void promise25ByTheirNumbers() {
    FirstdanceAgency x = new FirstdanceAgency();
    x.player(3, 0, 0, 1);
    x.player(1, 0, 0, 5);
    x.band(4);
    x.band(1);
    x.road(0, 1, 1);
    x.ask(0, 5, 0, 10, 2, 0);
    x.ask(1, 5, 1, 13, 2, 0);
    x.fix(0);
    x.fix(1);
    x.road(0, 1, 9);
    loses(x, 0, 5, 1);
  }

  static void promise25TheFirstGetsTheOnlyOther() {
    FirstdanceAgency x = Bounds.solo(1);
    x.road(0, 1, 1);
    x.ask(0, 5, 1, 13, 2, 0);
    x.ask(1, 5, 0, 10, 2, 0);
    x.fix(0);
    x.fix(1);
    x.player(1, 0, 0, 9);
    Bounds.due("while it can play both", x.wouldLose(0, 5), 0);
    x.road(0, 1, 2);
    loses(x, 0, 5, 1);
  }

  static void promise25WithAllThatCanBeThere() {
    FirstdanceAgency x = Bounds.full();
    for (int w = 0; w < 6; w++) {
      x.fix(w);
    }
    Bounds.due("others are there", x.wouldLose(0, 40), 0);
    for (int p = 1; p < 10; p++) {
      Bounds.due("one who does not play", x.wouldLose(p, 40), 0);
      x.ill(p, 40);
    }
    loses(x, 0, 40, 6);
  }

  static void promise25Today() {
    FirstdanceAgency x = Bounds.solo(1);
    x.ask(0, 0, 0, 10, 1, 0);
    x.fix(0);
    Bounds.due("today", x.wouldLose(0, 0), 1);
    x.pass(1);
    Bounds.refused(x, "yesterday", Bounds.ARGUMENT, () -> x.wouldLose(0, 0));
  }

  // ---- 26: plan

  static void promise26DayIs0To365() {
    for (int today : new int[] {0, 7, 365}) {
      Bounds.range(() -> onDay(today), Bounds.ARGUMENT, 0, 365, (x, v) -> x.plan(v, true));
      Bounds.range(() -> onDay(today), Bounds.ARGUMENT, 0, 365, (x, v) -> x.plan(v, false));
    }
  }

  private static void plans(FirstdanceAgency x, int day, int set, int prices) {
    String before = Checks.picture(x);
    Bounds.due("the set", x.plan(day, true), set);
    Bounds.due("the prices", x.plan(day, false), prices);
    Bounds.due("changed nothing", Checks.picture(x), before);
  }

  static void promise26NoneAskedThatDay() {
    FirstdanceAgency x = Bounds.fixed();
    plans(x, 39, 0, 0);
    plans(x, 40, 0, 0);
    FirstdanceAgency y = Bounds.asked();
    plans(y, 39, 0, 0);
    plans(y, 40, 1, 98);
    plans(y, 41, 2, 98);
    plans(y, 42, 0, 0);
    plans(new FirstdanceAgency(), 0, 0, 0);
  }

  static void promise26NoneThatCanBeFixed() {
    FirstdanceAgency x = Bounds.solo(10);
    x.ask(0, 5, 5, 10, 1, 0);
    plans(x, 5, 0, 0);
    x.ask(1, 5, 0, 10, 1, 0);
    plans(x, 5, 2, 62);
  }

  static void promise26OnTheFirstAndTheLastDay() {
    FirstdanceAgency x = Bounds.solo(10);
    x.ask(0, 0, 0, 10, 1, 0);
    x.ask(0, 365, 0, 10, 1, 0);
    plans(x, 0, 1, 62);
    plans(x, 365, 2, 62);
    x.pass(1);
    plans(x, 0, 0, 0);
  }

  static void promise26FirstInTheirQueues() {
    FirstdanceAgency x = Bounds.solo(10);
    x.ask(0, 5, 0, 10, 1, 0);
    x.ask(0, 5, 0, 12, 6, 0);
    x.ask(1, 5, 0, 12, 1, 0);
    plans(x, 5, 1 + 4, 124);
    x.cancel(0);
    plans(x, 5, 2, 60 * 6 / 5 + 50);
  }

  static void promise26TheThreeWithTheSmallestNumbers() {
    FirstdanceAgency x = new FirstdanceAgency();
    x.player(1, 0, 0, 10);
    for (int k = 0; k < 5; k++) {
      x.band(1);
      x.ask(k, 5, 0, 10 + 2 * k, 1 + k / 3, 0);
    }
    plans(x, 5, 7, 3 * 62);
    x.fix(1);
    plans(x, 5, 1 + 4 + 8, 62 + 62 + 74);
    x.cancel(0);
    plans(x, 5, 4 + 8 + 16, 62 + 74 + 74);
    x.cancel(4);
    plans(x, 5, 4 + 8, 62 + 74);
  }

  static void promise26ByTheirNumbersOneBehindTheOther() {
    FirstdanceAgency x = Bounds.solo(10);
    x.player(1, 1, 0, 20);
    x.ask(0, 5, 0, 10, 2, 0);
    x.ask(1, 5, 0, 10, 2, 1);
    plans(x, 5, 3, 20 * 6 / 5 + 50 + 40 * 6 / 5 + 50);
    FirstdanceAgency y = Bounds.solo(20);
    y.player(1, 1, 0, 10);
    y.ask(0, 5, 0, 10, 2, 0);
    y.ask(1, 5, 0, 10, 2, 1);
    plans(y, 5, 1, 20 * 6 / 5 + 50);
    y.cancel(0);
    y.ask(0, 5, 0, 10, 2, 0);
    plans(y, 5, 2 + 4, 20 * 6 / 5 + 50 + 40 * 6 / 5 + 50);
  }

  static void promise26TheMostPricesAndOnBothSidesOfATie() {
    int[] lengths = {1, 2, 3};
    int[] sets = {1, 1, 2};
    int[] prices = {20, 20, 30};
    for (int k = 0; k < 3; k++) {
      FirstdanceAgency x = Bounds.solo(10);
      x.ask(0, 5, 0, 12, 2, 0);
      x.ask(1, 5, 0, 12, lengths[k], 0);
      plans(x, 5, sets[k], prices[k] * 6 / 5 + 50);
    }
  }

  static void promise26TwoAgainstOne() {
    FirstdanceAgency x = Bounds.solo(10);
    x.ask(0, 5, 0, 10, 6, 0);
    x.ask(1, 5, 0, 10, 2, 0);
    x.ask(2, 5, 0, 12, 1, 0);
    plans(x, 5, 2 + 4, 74 + 62);
    FirstdanceAgency y = Bounds.solo(99);
    y.ask(0, 5, 0, 10, 6, 0);
    y.ask(1, 5, 0, 10, 2, 0);
    y.ask(2, 5, 0, 12, 1, 0);
    plans(y, 5, 1, 99 * 6 * 6 / 5 + 50);
  }

  static void promise26OfSeveralTheSmallestSetIsTheSmallestNumber() {
    FirstdanceAgency x = Bounds.solo(10);
    x.ask(0, 5, 0, 14, 2, 0);
    x.ask(1, 5, 0, 10, 2, 0);
    x.ask(2, 5, 0, 14, 2, 0);
    plans(x, 5, 1 + 2, 74 + 74);
    x.cancel(0);
    x.ask(0, 5, 0, 10, 2, 0);
    plans(x, 5, 2 + 4, 74 + 74);
  }

  static void promise26WithAllThatCanBeThere() {
    FirstdanceAgency x = Bounds.full();
    plans(x, 40, 1 + 2 + 4, 3 * 62);
    for (int w = 0; w < 12; w++) {
      x.cancel(w);
    }
    plans(x, 40, (1 << 12) + (1 << 13), 2 * 62);
    x.fix(12);
    plans(x, 40, 1 << 13, 62);
  }

  static void promise26WhatIsFixedIsInTheWay() {
    FirstdanceAgency x = Bounds.solo(10);
    x.ask(0, 5, 0, 12, 2, 0);
    x.fix(0);
    x.ask(1, 5, 0, 13, 2, 0);
    x.ask(2, 5, 0, 14, 2, 0);
    plans(x, 5, 4, 74);
  }

  // ---- 27: wouldCancel

  static void promise27WeddingsThatAreThere() {
    Bounds.numbers(Bounds::four, Bounds::fixed, 2, (x, v) -> x.wouldCancel(v));
  }

  static void promise27OnlyAFixedOne() {
    FirstdanceAgency x = Bounds.asked();
    Bounds.refused(x, "an asked one", Bounds.STATE, () -> x.wouldCancel(0));
    x.fix(0);
    x.fix(1);
    Bounds.due("a fixed one", x.wouldCancel(0), 0 - (98 - 19 - 40));
    x.cancel(1);
    Bounds.refused(x, "a lost one", Bounds.STATE, () -> x.wouldCancel(1));
    Bounds.passTo(x, 41);
    Bounds.refused(x, "a played one", Bounds.STATE, () -> x.wouldCancel(0));
  }

  /** solo(10) for 3 hours: of 86, 17 are paid; played, 69 more are paid and 30 earned. */
  private static void wouldBeMore(int ahead, int more) {
    FirstdanceAgency x = Bounds.solo(10);
    Bounds.passTo(x, 3);
    x.ask(0, 3 + ahead, 0, 10, 3, 0);
    x.fix(0);
    String before = Checks.picture(x);
    Bounds.due(ahead + " days ahead", x.wouldCancel(0), more);
    Bounds.due("changed nothing", Checks.picture(x), before);
  }

  static void promise27With30DaysOrMore20Hundredths() {
    wouldBeMore(31, 0 - 39);
    wouldBeMore(30, 0 - 39);
  }

  static void promise27With29To14Days40Hundredths() {
    wouldBeMore(29, 17 - 39);
    wouldBeMore(14, 17 - 39);
  }

  static void promise27With13To7Days70Hundredths() {
    wouldBeMore(13, 43 - 39);
    wouldBeMore(7, 43 - 39);
  }

  static void promise27With6DaysOrFewerAll() {
    wouldBeMore(6, 69 - 39);
    wouldBeMore(0, 69 - 39);
  }

  static void promise27ExtraCountsIfItWasPlayed() {
    int[] minutes = {0, 15, 45, 240};
    for (int k = 0; k < minutes.length; k++) {
      FirstdanceAgency x = new FirstdanceAgency();
      x.player(1, 0, 0, 3);
      x.player(1, 0, 0, 3);
      x.band(2);
      x.ask(0, 5, 0, 10, 1, 0);
      x.fix(0);
      x.late(0, minutes[k]);
      int quarters = minutes[k] / 15;
      int ifPlayed = 57 - 11 + quarters * 6 / 4 - 2 * (3 + quarters * 3 / 4);
      Bounds.due("late " + minutes[k], x.wouldCancel(0), 57 - 11 - ifPlayed);
    }
  }

  static void promise27AsCancelAndAsPlayed() {
    FirstdanceAgency x = Bounds.fixed();
    FirstdanceAgency y = Bounds.fixed();
    x.late(0, 75);
    y.late(0, 75);
    Bounds.passTo(x, 40);
    Bounds.passTo(y, 40);
    int would = x.wouldCancel(0);
    x.cancel(0);
    y.pass(1);
    Bounds.due("the difference of both", would, x.desk(8) - y.desk(8));
  }

  static void promise27DriveCounts0WithoutAWay() {
    FirstdanceAgency x = Bounds.solo(10);
    x.road(0, 1, 9);
    x.ask(0, 5, 1, 10, 1, 0);
    Bounds.due("price", x.fix(0), 170);
    Bounds.due("with a way", x.wouldCancel(0), 136 - (136 - 100));
    x.road(0, 1, 0);
    Bounds.due("without a way", x.wouldCancel(0), 136 - (136 - 10));
  }

  static void promise27ByTheRoadsOfNow() {
    FirstdanceAgency x = Bounds.solo(10);
    x.road(0, 1, 1);
    x.ask(0, 5, 1, 10, 1, 0);
    Bounds.due("price", x.fix(0), 74);
    Bounds.due("an hour away", x.wouldCancel(0), 60 - (60 - 20));
    x.road(0, 1, 9);
    Bounds.due("nine hours away", x.wouldCancel(0), 60 - (60 - 100));
  }

  static void promise27OfThoseWhoPlayItByNow() {
    FirstdanceAgency x = Bounds.fixed();
    x.late(0, 60);
    x.ill(0, 40);
    Bounds.due("1 and 2", x.wouldCancel(0), 0 - (98 - 19 + 50 - 50 - 50));
  }

  // ---- 28: key

  static void promise28WeddingsThatAreThere() {
    Bounds.numbers(Bounds::four, Bounds::asked, 2, (x, v) -> x.key(v));
  }

  static void promise28NoneWithoutAFilling() {
    FirstdanceAgency x = new FirstdanceAgency();
    x.band(1);
    x.ask(0, 5, 0, 10, 1, 0);
    Bounds.due("nobody is there", x.key(0), Bounds.NONE);
    x.player(2, 0, 0, 1);
    Bounds.due("nobody has the instrument", x.key(0), Bounds.NONE);
    x.player(1, 0, 0, 1);
    Bounds.due("one has it", x.key(0), 1);
    x.player(1, 0, 0, 1);
    Bounds.due("two have it", x.key(0), Bounds.NONE);
  }

  static void promise28OfSeveralTheSmallestNumber() {
    FirstdanceAgency x = new FirstdanceAgency();
    x.player(1, 0, 0, 1);
    x.player(1, 0, 0, 1);
    x.band(2);
    x.ask(0, 5, 0, 10, 1, 0);
    Bounds.due("of both", x.key(0), 0);
    x.player(1, 0, 0, 1);
    Bounds.due("each of three can be left out", x.key(0), Bounds.NONE);
    x.feud(0, 2, true);
    Bounds.due("1 is in both that are left", x.key(0), 1);
  }

  static void promise28TheLastPlayerOfTen() {
    FirstdanceAgency x = new FirstdanceAgency();
    for (int p = 0; p < 9; p++) {
      x.player(1, 0, 0, 1);
    }
    x.player(2, 0, 0, 1);
    x.band(4);
    x.ask(0, 5, 0, 10, 1, 0);
    Bounds.due("the only one of its instrument", x.key(0), 9);
  }

  static void promise28OneIsInAllThoughNotByItsInstrument() {
    FirstdanceAgency x = new FirstdanceAgency();
    x.player(1, 0, 0, 1);
    x.player(1, 1, 0, 9);
    x.player(1, 1, 0, 9);
    x.player(1, 1, 0, 9);
    x.band(2);
    x.ask(0, 5, 0, 10, 1, 1);
    Bounds.due("of three who know the song two are enough", x.key(0), Bounds.NONE);
    x.ill(3, 5);
    Bounds.due("of two both are needed", x.key(0), 1);
  }

  static void promise28WithAllThatCanBeThere() {
    FirstdanceAgency x = Bounds.full();
    for (int p = 0; p < 9; p++) {
      Bounds.due("more than one is there", x.key(13), Bounds.NONE);
      x.ill(p, 40);
    }
    Bounds.due("9 is the only one", x.key(13), 9);
    x.fix(1);
    Bounds.due("9 plays at that hour", x.key(13), Bounds.NONE);
  }

  static void promise28AlsoOfOneThatIsNotAsked() {
    FirstdanceAgency x = Bounds.solo(1);
    x.ask(0, 5, 0, 10, 1, 0);
    x.fix(0);
    Bounds.due("fixed", x.key(0), 0);
    x.cancel(0);
    Bounds.due("lost", x.key(0), 0);
    x.ill(0, 5);
    Bounds.due("lost, and off", x.key(0), Bounds.NONE);
  }

  // ---- 29: isSound

  static void promise29WithNothingAndWithAll() {
    Bounds.due("a new one", new FirstdanceAgency().isSound(), true);
    FirstdanceAgency x = new FirstdanceAgency();
    for (int p = 0; p < 10; p++) {
      x.player(63, ALL, 0, 99);
    }
    for (int b = 0; b < 6; b++) {
      x.band(675);
    }
    for (int w = 0; w < 14; w++) {
      x.ask(w % 6, w / 2, 0, w % 2 == 0 ? 10 : 17, 6, ALL);
      x.fix(w);
      x.late(w, 240);
      Bounds.due("fixed " + w, x.isSound(), true);
      if (w % 2 == 1) {
        x.pass(1);
        Bounds.due("played " + w, x.isSound(), true);
      }
    }
    Bounds.due("all are played", x.desk(6), 14);
  }

  static void promise29InEachState() {
    FirstdanceAgency x = Bounds.asked();
    Bounds.due("asked", x.isSound(), true);
    x.fix(0);
    x.fix(1);
    Bounds.due("fixed", x.isSound(), true);
    x.ill(0, 40);
    Bounds.due("filled anew", x.isSound(), true);
    x.ill(1, 40);
    Bounds.due("lost by illness", x.isSound(), true);
    x.cancel(1);
    Bounds.due("cancelled", x.isSound(), true);
    x.ask(0, 3, 0, 17, 6, 0);
    x.fix(2);
    x.late(2, 240);
    x.pass(4);
    Bounds.due("played", x.isSound(), true);
  }

  private static int swap(Object of, String name, int value) {
    try {
      Field field = of.getClass().getDeclaredField(name);
      field.setAccessible(true);
      int before = field.getInt(of);
      field.setInt(of, value);
      return before;
    } catch (ReflectiveOperationException e) {
      throw new IllegalStateException(e);
    }
  }

  private static Object row(FirstdanceAgency x, String name, int number) {
    try {
      Field field = FirstdanceAgency.class.getDeclaredField(name);
      field.setAccessible(true);
      return ((Object[]) field.get(x))[number];
    } catch (ReflectiveOperationException e) {
      throw new IllegalStateException(e);
    }
  }

  /** No call makes an agency unsound: so its fields are set from here, and set back. */
  private static void unsound(FirstdanceAgency x, String what, Object of, String name, int value) {
    Bounds.due("sound ahead of it", x.isSound(), true);
    int before = swap(of, name, value);
    Bounds.due(what, x.isSound(), false);
    swap(of, name, before);
    Bounds.due("sound behind it", x.isSound(), true);
  }

  static void promise29NotSoundIfOneOfItsSentencesDoesNotHold() {
    FirstdanceAgency x = Bounds.fixed();
    x.ask(0, 0, 0, 10, 3, 0);
    x.fix(2);
    x.pass(1);
    unsound(x, "one player fewer than needed", row(x, "weddings", 0), "players", 1);
    unsound(x, "one player more than needed", row(x, "weddings", 1), "players", 7);
    unsound(x, "two of one band on one day", row(x, "weddings", 1), "day", 40);
    unsound(x, "cash is one more", x, "cash", x.desk(8) + 1);
    unsound(x, "cash is one less", x, "cash", x.desk(8) - 1);
    unsound(x, "one more was paid", row(x, "weddings", 2), "paid", x.ofWedding(2, 10) + 1);
    unsound(x, "one more was earned", row(x, "players", 2), "earned", x.ofPlayer(2, 5) + 1);
    unsound(x, "one hour more", row(x, "players", 2), "hours", 4);
    unsound(x, "one hour less", row(x, "players", 0), "hours", 2);
    unsound(x, "one hour longer", row(x, "weddings", 2), "length", 4);
  }

  /** Shares are rounded down, so no minutes that can be told make them more than 1000: these are below 0. */
  static void promise29NotSoundIfSharesAreMoreThan1000() {
    FirstdanceAgency x = Bounds.solo(1);
    x.learn(0, 15);
    x.ask(0, 0, 0, 10, 1, 0);
    x.fix(0);
    x.pass(1);
    int[] minutes = {-1, -1, 7, 2};
    for (int s = 0; s < 4; s++) {
      swap(row(x, "allSongs", s), "minutes", minutes[s]);
    }
    Bounds.due("1000 and 285, less 142 twice", x.isSound(), false);
    swap(row(x, "allSongs", 3), "minutes", 1);
    swap(row(x, "allSongs", 1), "minutes", 0);
    Bounds.due("1000 and 142, less 142", x.isSound(), true);
  }

  static void promise29TwoOfOneDayAreSoundIfBandsDiffer() {
    FirstdanceAgency x = Bounds.solo(1);
    x.ask(0, 5, 0, 10, 1, 0);
    x.ask(1, 5, 0, 12, 1, 0);
    x.fix(0);
    x.fix(1);
    unsound(x, "as they are of one band", row(x, "weddings", 1), "band", 0);
    x.cancel(0);
    x.ask(0, 5, 0, 14, 1, 0);
    x.fix(2);
    Bounds.due("one of them is lost", x.isSound(), true);
  }

  // ---- 30: digest

  /** The numbers in their order, taken together without bounds, and only then put into 64 bits. */
  private static long digestOf(FirstdanceAgency x) {
    BigInteger[] d = {BigInteger.valueOf(58278)};
    for (int what = 0; what <= 12; what++) {
      add(d, x.desk(what));
    }
    for (int p = 0; p < x.desk(1); p++) {
      for (int what = 0; what <= 8; what++) {
        add(d, x.ofPlayer(p, what));
      }
    }
    for (int s = 0; s <= 15; s++) {
      for (int what = 0; what <= 5; what++) {
        add(d, x.ofSong(s, what));
      }
    }
    for (int b = 0; b < x.desk(2); b++) {
      for (int what = 0; what <= 8; what++) {
        add(d, x.ofBand(b, what));
      }
    }
    for (int w = 0; w < x.desk(3); w++) {
      addWedding(d, x, w);
    }
    add(d, x.set((1 << x.desk(1)) - 1, true));
    add(d, x.drive(0, 5));
    add(d, x.isSound() ? 1 : 0);
    return d[0].longValue();
  }

  private static void addWedding(BigInteger[] d, FirstdanceAgency x, int w) {
    for (int what = 0; what <= 12; what++) {
      add(d, x.ofWedding(w, what));
    }
    for (int what = 0; what <= 3 && x.ofWedding(w, 6) == Bounds.ASKED; what++) {
      add(d, x.filling(w, what));
    }
    add(d, x.songs(w).equals("-") ? 0 : x.songs(w).split(" ").length);
  }

  private static void add(BigInteger[] d, int v) {
    d[0] = d[0].multiply(BigInteger.valueOf(31)).add(BigInteger.valueOf(v));
  }

  private static void digests(String what, FirstdanceAgency x) {
    long first = x.digest();
    Bounds.due(what, first, digestOf(x));
    Bounds.due(what + ", again", x.digest(), first);
  }

  static void promise30WithoutAnything() {
    digests("a new one", new FirstdanceAgency());
  }

  /** Of a new one all numbers are known: 13 of the desk, 6 of each song, then 0, NONE and 1. */
  static void promise30OfANewOneByItself() {
    BigInteger[] d = {BigInteger.valueOf(58278)};
    for (int k = 0; k < 13; k++) {
      add(d, 0);
    }
    for (int s = 0; s < 16; s++) {
      for (int v : new int[] {s % 12, 5, 3, 0, 0, 0}) {
        add(d, v);
      }
    }
    for (int v : new int[] {0, -1, 1}) {
      add(d, v);
    }
    Bounds.due("digest", new FirstdanceAgency().digest(), d[0].longValue());
    Bounds.due("it is far beyond 64 bits", d[0].bitLength() > 500, true);
  }

  static void promise30WrapsAroundAndTakesNumbersBelow0() {
    FirstdanceAgency x = Bounds.solo(8);
    x.ask(0, 5, 0, 10, 1, 0);
    digests("asked", x);
    x.fix(0);
    digests("fixed", x);
    x.ill(0, 5);
    Bounds.due("cash below 0", x.desk(8), -5);
    digests("lost, below 0", x);
    x.ask(0, 5, 0, 10, 1, 1);
    Bounds.due("no filling", x.filling(1, 0), Bounds.NONE);
    digests("asked, without a filling", x);
  }

  static void promise30InEachState() {
    FirstdanceAgency x = Bounds.asked();
    x.band(1);
    x.ask(1, 40, 0, 12, 1, 3);
    digests("asked", x);
    x.fix(0);
    x.cancel(1);
    digests("fixed and lost", x);
    x.road(0, 5, 7);
    digests("a drive from 0 to 5", x);
    x.feud(0, 1, true);
    digests("a feud", x);
    Bounds.passTo(x, 41);
    digests("played", x);
  }

  static void promise30WithAllThatCanBeThere() {
    FirstdanceAgency x = new FirstdanceAgency();
    for (int p = 0; p < 10; p++) {
      x.player(63, 6553 * p, 0, 90 + p);
    }
    for (int b = 0; b < 6; b++) {
      x.band(1 + b);
    }
    for (int w = 0; w < 14; w++) {
      x.ask(w % 6, 2 + w / 6, 0, 10 + w % 9, 1 + w % 6, 0);
    }
    digests("all asked", x);
    x.fix(0);
    x.fix(1);
    x.fix(7);
    digests("some fixed", x);
    x.pass(3);
    digests("some played", x);
    x.pass(3);
    digests("behind all", x);
  }

  static void promise30TheLastNumberIs1IfSoundAndOtherwise0() {
    FirstdanceAgency x = Bounds.solo(1);
    x.ask(0, 0, 0, 10, 1, 0);
    x.fix(0);
    x.pass(1);
    long sound = x.digest();
    swap(row(x, "players", 0), "hours", 2);
    Bounds.due("one hour too many: it is not sound", x.isSound(), false);
    digests("it is not sound", x);
    swap(row(x, "players", 0), "hours", 1);
    Bounds.due("sound again", x.digest(), sound);
  }

  static void promise30EachNumberCounts() {
    FirstdanceAgency x = Bounds.four();
    long before = x.digest();
    x.song(15, 3, 5, 4);
    Bounds.due("a minute more", x.digest() == before, false);
    x.song(15, 3, 5, 3);
    Bounds.due("a minute less again", x.digest(), before);
  }
}
