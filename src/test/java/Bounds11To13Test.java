/** Both sides of each boundary that the document names in the promises 11 to 13, and in the sections they lean on. */
public final class Bounds11To13Test {
  private static final int ALL = Bounds.ALL;

  public static void main(String[] args) {
    run();
    Checks.end("Bounds11To13Test");
  }

  static void run() {
    Bounds.runAll(Bounds11To13Test.class, 11, 13);
  }

  private static FirstdanceAgency onDay(int day) {
    FirstdanceAgency x = Bounds.four();
    Bounds.passTo(x, day);
    return x;
  }

  // ---- 11: ill

  static void promise11PlayersThatAreThere() {
    Bounds.numbers(Bounds::empty, Bounds::four, 4, (x, v) -> x.ill(v, 5));
  }

  static void promise11DayIsTodayTo365() {
    for (int today : new int[] {0, 1, 7, 364, 365}) {
      Bounds.range(() -> onDay(today), Bounds.ARGUMENT, today, 365, (x, v) -> {
        x.ill(0, v);
        Bounds.due("days off", x.desk(11), 1);
      });
    }
  }

  static void promise11TheFirstNamedIsThrown() {
    FirstdanceAgency x = onDay(3);
    Bounds.refused(x, "player and day", Bounds.INDEX, () -> x.ill(4, 2));
    Bounds.refused(x, "player and day", Bounds.INDEX, () -> x.ill(-1, 366));
  }

  static void promise11OffThenAndNoOtherDay() {
    FirstdanceAgency x = Bounds.four();
    x.ask(0, 4, 0, 10, 1, 0);
    x.ask(0, 5, 0, 10, 1, 0);
    x.ask(0, 6, 0, 10, 1, 0);
    Bounds.due("none is lost", x.ill(0, 5), 0);
    Bounds.due("the day ahead", x.free(0, 0), true);
    Bounds.due("that day", x.free(0, 1), false);
    Bounds.due("the day behind", x.free(0, 2), true);
    Bounds.due("another player", x.free(1, 1), true);
  }

  static void promise11AgainOnThatDay() {
    FirstdanceAgency x = Bounds.four();
    x.ill(0, 5);
    Bounds.due("again", x.ill(0, 5), 0);
    Bounds.due("off once", x.desk(11), 1);
    x.ill(0, 6);
    Bounds.due("another day", x.desk(11), 2);
    x.ill(1, 5);
    Bounds.due("another player", x.desk(11), 3);
  }

  static void promise11OneWhoDoesNotPlayIt() {
    FirstdanceAgency x = Bounds.fixed();
    x.player(3, ALL, 0, 1);
    Bounds.due("1 is ill", x.ill(1, 40), 0);
    Bounds.due("not filled anew, though one would cost less", x.ofWedding(0, 7), 5);
  }

  static void promise11OnlyThatDayIsFilledAnew() {
    FirstdanceAgency x = Bounds.fixed();
    x.ill(0, 40);
    Bounds.due("that day", x.ofWedding(0, 7), 6);
    Bounds.due("the next one", x.ofWedding(1, 7), 5);
  }

  static void promise11AskedOnesAreLeft() {
    FirstdanceAgency x = Bounds.solo(10);
    x.ask(0, 5, 0, 10, 1, 0);
    Bounds.due("an asked one is not lost", x.ill(0, 5), 0);
    Bounds.due("it waits", x.ofWedding(0, 6), Bounds.ASKED);
  }

  /** A band of three who all can play all: 0, 1 and 2 are fixed, at 1, 50 and 50; then others come. */
  private static FirstdanceAgency three(int feeOf3, int feeOf4, int feeOf5) {
    FirstdanceAgency x = new FirstdanceAgency();
    x.player(7, 0, 0, 1);
    x.player(7, 0, 0, 50);
    x.player(7, 0, 0, 50);
    x.band(13);
    x.ask(0, 5, 0, 10, 1, 0);
    x.fix(0);
    x.player(7, 0, 0, feeOf3);
    x.player(7, 0, 0, feeOf4);
    x.player(7, 0, 0, feeOf5);
    return x;
  }

  static void promise11MostOfThoseWhomItHadAheadOfLeastCost() {
    FirstdanceAgency x = three(1, 1, 1);
    Bounds.due("fixed", x.ofWedding(0, 7), 7);
    x.ill(0, 5);
    Bounds.due("1 and 2 stay, at 50 each", x.ofWedding(0, 7), 2 + 4 + 8);
  }

  /** 0 and 1 are the smaller set and cost less, but 2 was there. */
  static void promise11MostOfThoseWhomItHadAheadOfTheSmallestSet() {
    FirstdanceAgency x = new FirstdanceAgency();
    x.player(1, 0, 0, 5);
    x.player(1, 0, 0, 5);
    x.player(1, 0, 0, 9);
    x.player(1, 0, 0, 9);
    x.band(2);
    x.ask(0, 5, 0, 10, 1, 0);
    int[] one = {0, 0, 0, 1, 1};
    int[] other = {1, 2, 3, 2, 3};
    for (int k = 0; k < 5; k++) {
      x.feud(one[k], other[k], true);
    }
    x.fix(0);
    Bounds.due("2 and 3, as the others have feuds", x.ofWedding(0, 7), 4 + 8);
    for (int k = 0; k < 5; k++) {
      x.feud(one[k], other[k], false);
    }
    Bounds.due("the best filling would be another", x.filling(0, 0), 1 + 2);
    x.ill(3, 5);
    Bounds.due("2 stays, with the smaller of 0 and 1", x.ofWedding(0, 7), 1 + 4);
  }

  static void promise11ThenTheLeastCost() {
    FirstdanceAgency x = three(3, 3, 2);
    x.ill(0, 5);
    Bounds.due("with the one that costs least", x.ofWedding(0, 7), 2 + 4 + 32);
  }

  static void promise11ThenTheSmallestSet() {
    FirstdanceAgency x = three(3, 2, 2);
    x.ill(0, 5);
    Bounds.due("of those that cost as much", x.ofWedding(0, 7), 2 + 4 + 16);
  }

  static void promise11FewerOfThoseWhomItHadIfMoreCantBe() {
    FirstdanceAgency x = three(1, 1, 1);
    x.feud(1, 2, true);
    x.ill(0, 5);
    Bounds.due("1 and 2 have a feud: the smaller set with one of them", x.ofWedding(0, 7), 2 + 8 + 16);
    x.ill(1, 5);
    Bounds.due("3 and 4 stay, and 5 costs less than 2", x.ofWedding(0, 7), 8 + 16 + 32);
  }

  static void promise11WhomItHadLastCounts() {
    FirstdanceAgency x = three(9, 1, 9);
    x.ill(0, 5);
    Bounds.due("4 came", x.ofWedding(0, 7), 2 + 4 + 16);
    x.ill(1, 5);
    Bounds.due("4 stays", x.ofWedding(0, 7), 4 + 8 + 16);
  }

  static void promise11WhomItHadButWhoHasNoWayAnyMore() {
    FirstdanceAgency x = new FirstdanceAgency();
    x.player(1, 0, 0, 1);
    x.player(1, 0, 1, 1);
    x.band(2);
    x.road(0, 1, 1);
    x.ask(0, 5, 0, 10, 1, 0);
    x.fix(0);
    x.player(1, 0, 0, 9);
    x.road(0, 1, 0);
    Bounds.due("1 can't come", x.wouldLose(0, 5), 1);
    x.player(1, 0, 0, 9);
    Bounds.due("two others can", x.ill(0, 5), 0);
    Bounds.due("both are new", x.ofWedding(0, 7), 4 + 8);
  }

  static void promise11TodayToo() {
    FirstdanceAgency x = Bounds.fixed();
    Bounds.passTo(x, 40);
    Bounds.due("another plays it today", x.ill(0, 40), 0);
    Bounds.due("filled anew", x.ofWedding(0, 7), 6);
    Bounds.due("nobody is left", x.ill(1, 40), 1);
    x.pass(1);
    Bounds.due("lost, not played", x.ofWedding(0, 6), Bounds.LOST);
  }

  /** 0 is fixed with 1; then 2 and 3 could come, who cost less, but for what is told of them. */
  private static FirstdanceAgency duo(int songsOf2, int songsOf3, int instrumentsOf2) {
    FirstdanceAgency x = new FirstdanceAgency();
    x.player(1, 3, 0, 5);
    x.player(2, 3, 0, 5);
    x.band(4);
    x.band(2);
    x.ask(0, 5, 0, 12, 2, 1);
    x.fix(0);
    x.player(instrumentsOf2, songsOf2, 0, 1);
    x.player(2, songsOf3, 0, 2);
    return x;
  }

  static void promise11PromisedSongsAreKnownThen() {
    FirstdanceAgency x = duo(2, 1, 2);
    x.ill(1, 5);
    Bounds.due("2 does not know it", x.ofWedding(0, 7), 1 + 8);
    FirstdanceAgency y = duo(2, 2, 2);
    Bounds.due("neither knows it", y.ill(1, 5), 1);
  }

  static void promise11EachOneInstrumentThen() {
    FirstdanceAgency x = duo(1, 1, 1);
    x.ill(1, 5);
    Bounds.due("2 plays what 0 plays", x.ofWedding(0, 7), 1 + 8);
    FirstdanceAgency y = duo(1, 1, 3);
    y.ill(1, 5);
    Bounds.due("2 plays either", y.ofWedding(0, 7), 1 + 4);
  }

  static void promise11OnlyThoseWhoAreFreeThen() {
    FirstdanceAgency x = duo(1, 1, 2);
    x.ill(2, 5);
    x.ill(1, 5);
    Bounds.due("2 is off", x.ofWedding(0, 7), 1 + 8);
    FirstdanceAgency y = duo(1, 1, 2);
    y.band(3);
    y.ask(2, 5, 0, 13, 1, 0);
    y.fix(1);
    Bounds.due("2 plays elsewhere", y.ofWedding(1, 7), 4);
    y.ill(1, 5);
    Bounds.due("at that hour", y.ofWedding(0, 7), 1 + 8);
    Bounds.due("the other one is left as it was", y.ofWedding(1, 7), 4);
  }

  static void promise11NoTwoWithAFeudThen() {
    FirstdanceAgency x = duo(1, 1, 2);
    x.feud(0, 2, true);
    x.ill(1, 5);
    Bounds.due("2 has a feud with 0", x.ofWedding(0, 7), 1 + 8);
    x.feud(0, 3, true);
    Bounds.due("what is fixed stays, until one is ill", x.ofWedding(0, 6), Bounds.FIXED);
    x.player(1, 1, 0, 1);
    x.ill(3, 5);
    Bounds.due("nobody can play with 0: 2 and the new one come", x.ofWedding(0, 7), 4 + 16);
  }

  static void promise11LeastCostByTheRoadsOfThatMoment() {
    FirstdanceAgency x = Bounds.solo(10);
    x.road(0, 1, 1);
    x.road(0, 2, 2);
    x.ask(0, 5, 0, 10, 1, 0);
    x.fix(0);
    x.player(1, 0, 1, 1);
    x.player(1, 0, 2, 1);
    Bounds.due("1 is nearer", x.filling(0, 0), 1);
    x.road(0, 1, 3);
    x.ill(0, 5);
    Bounds.due("2 is nearer by now", x.ofWedding(0, 7), 4);
  }

  static void promise11LateStaysAndExtraIsOfThoseWhoPlayThen() {
    FirstdanceAgency x = Bounds.fixed();
    x.late(0, 60);
    x.ill(0, 40);
    Bounds.due("late", x.ofWedding(0, 9), 60);
    Bounds.passTo(x, 41);
    Bounds.due("50 an hour together", x.ofWedding(0, 10), 98 + 50);
    Bounds.due("the new one earns it", x.ofPlayer(1, 5), 20 + 20);
    Bounds.due("and has its hour", x.ofPlayer(1, 8), 1);
    Bounds.due("the ill one has none", x.ofPlayer(0, 8), 0);
    Bounds.due("nor played it", x.ofPlayer(0, 7), 0);
  }

  static void promise11PriceStays() {
    FirstdanceAgency x = Bounds.fixed();
    x.ill(0, 40);
    Bounds.due("price", x.ofWedding(0, 8), 98);
    Bounds.due("paid", x.ofWedding(0, 10), 19);
    Bounds.due("cash", x.desk(8), 38);
    Bounds.passTo(x, 41);
    Bounds.due("paid then", x.ofWedding(0, 10), 98);
    Bounds.due("the new one earns what it costs", x.ofPlayer(1, 5), 20);
    Bounds.due("the ill one nothing", x.ofPlayer(0, 5), 0);
  }

  /** At a price of 59, 11 are paid; 11 and 5 are paid back. */
  static void promise11WithoutAFillingAFifthAndATenthArePaidBack() {
    FirstdanceAgency x = Bounds.solo(8);
    x.ask(0, 5, 0, 10, 1, 0);
    Bounds.due("price", x.fix(0), 59);
    Bounds.due("paid", x.desk(8), 11);
    Bounds.due("lost", x.ill(0, 5), 1);
    Bounds.due("state", x.ofWedding(0, 6), Bounds.LOST);
    Bounds.due("paid less what was paid back", x.ofWedding(0, 10), -5);
    Bounds.due("cash", x.desk(8), -5);
    Bounds.due("its last players", x.ofWedding(0, 7), 1);
    Bounds.due("its price", x.ofWedding(0, 8), 59);
    Bounds.due("sound", x.isSound(), true);
  }

  static void promise11FillingLeftByOne() {
    FirstdanceAgency x = Bounds.fixed();
    Bounds.due("3 in the place of 2", x.ill(2, 40), 0);
    Bounds.due("filled", x.ofWedding(0, 7), 9);
    Bounds.due("nobody in the place of 3", x.ill(3, 40), 1);
    Bounds.due("lost", x.ofWedding(0, 6), Bounds.LOST);
    Bounds.due("the next day is not", x.ofWedding(1, 6), Bounds.FIXED);
  }

  static void promise11ALostOneIsNotHitAgain() {
    FirstdanceAgency x = Bounds.solo(8);
    x.ask(0, 5, 0, 10, 1, 0);
    x.fix(0);
    x.ill(0, 5);
    Bounds.due("again", x.ill(0, 5), 0);
    Bounds.due("nothing more is paid back", x.desk(8), -5);
  }

  /** 0 plays both, in towns that were an hour apart and are 9 apart now; 1 can only fill the solo. */
  private static FirstdanceAgency duoAndSolo(boolean isDuoFirst) {
    FirstdanceAgency x = new FirstdanceAgency();
    x.player(3, 0, 0, 1);
    x.player(1, 0, 0, 5);
    x.band(4);
    x.band(1);
    x.road(0, 1, 1);
    x.ask(isDuoFirst ? 0 : 1, 5, isDuoFirst ? 0 : 1, isDuoFirst ? 10 : 13, 2, 0);
    x.ask(isDuoFirst ? 1 : 0, 5, isDuoFirst ? 1 : 0, isDuoFirst ? 13 : 10, 2, 0);
    x.fix(0);
    x.fix(1);
    x.road(0, 1, 9);
    return x;
  }

  static void promise11ByTheirNumbersALostOneSetsItsPlayersFree() {
    FirstdanceAgency x = duoAndSolo(true);
    Bounds.due("the duo", x.ofWedding(0, 7), 3);
    Bounds.due("the solo", x.ofWedding(1, 7), 1);
    Bounds.due("the duo is lost", x.ill(0, 5), 1);
    Bounds.due("the duo is lost", x.ofWedding(0, 6), Bounds.LOST);
    Bounds.due("1 fills the solo", x.ofWedding(1, 7), 2);
  }

  static void promise11ByTheirNumbersOneThatIsLostLaterDoesNot() {
    FirstdanceAgency x = duoAndSolo(false);
    Bounds.due("the solo", x.ofWedding(0, 7), 1);
    Bounds.due("the duo", x.ofWedding(1, 7), 3);
    Bounds.due("1 still plays the duo as the solo is filled", x.ill(0, 5), 2);
    Bounds.due("cash", x.desk(8), -(x.ofWedding(0, 8) / 10) - x.ofWedding(1, 8) / 10);
  }

  static void promise11ByTheirNumbersTheFirstGetsTheOnlyOther() {
    FirstdanceAgency x = Bounds.solo(1);
    x.road(0, 1, 1);
    x.ask(0, 5, 1, 13, 2, 0);
    x.ask(1, 5, 0, 10, 2, 0);
    x.fix(0);
    x.fix(1);
    x.player(1, 0, 0, 9);
    x.road(0, 1, 2);
    Bounds.due("one of both", x.ill(0, 5), 1);
    Bounds.due("the first one", x.ofWedding(0, 7) * 10 + x.ofWedding(0, 6), 21);
    Bounds.due("the second one", x.ofWedding(1, 6), Bounds.LOST);
  }

  static void promise11WithAllThatCanBeThere() {
    FirstdanceAgency x = Bounds.full();
    for (int w = 0; w < 6; w++) {
      x.fix(w);
      Bounds.due("all by 0, one behind the other", x.ofWedding(w, 7), 1);
    }
    Bounds.due("the last player does not play", x.ill(9, 40), 0);
    for (int p = 0; p < 8; p++) {
      Bounds.due("others are there", x.ill(p, 40), 0);
    }
    Bounds.due("8 alone is left", x.ofPlayer(8, 6), 6);
    Bounds.due("all are lost", x.ill(8, 40), 6);
    Bounds.due("a tenth of each is paid besides", x.desk(8), -6 * 6);
    Bounds.due("14 are lost", x.desk(7), 14);
  }

  // ---- 12: late

  static void promise12WeddingsThatAreThere() {
    Bounds.numbers(Bounds::four, Bounds::fixed, 2, (x, v) -> x.late(v, 0));
  }

  static void promise12MinutesAre0To240() {
    Bounds.range(Bounds::fixed, Bounds.ARGUMENT, 0, 240, (x, v) -> {
      x.late(0, v);
      Bounds.due("late", x.ofWedding(0, 9), v);
    });
  }

  static void promise12OnlyAFixedOne() {
    FirstdanceAgency x = Bounds.asked();
    Bounds.refused(x, "an asked one", Bounds.STATE, () -> x.late(0, 15));
    x.fix(0);
    x.fix(1);
    Bounds.due("a fixed one", x.late(0, 15), 1);
    x.cancel(1);
    Bounds.refused(x, "a lost one", Bounds.STATE, () -> x.late(1, 15));
    Bounds.passTo(x, 40);
    Bounds.due("on its day", x.late(0, 16), 2);
    x.pass(1);
    Bounds.refused(x, "a played one", Bounds.STATE, () -> x.late(0, 15));
  }

  static void promise12TheFirstNamedIsThrown() {
    FirstdanceAgency x = Bounds.asked();
    Bounds.refused(x, "wedding and minutes", Bounds.INDEX, () -> x.late(2, 241));
    Bounds.refused(x, "wedding and minutes", Bounds.INDEX, () -> x.late(-1, -1));
    Bounds.refused(x, "minutes, and it is not fixed", Bounds.ARGUMENT, () -> x.late(0, 241));
    Bounds.refused(x, "minutes, and it is not fixed", Bounds.ARGUMENT, () -> x.late(0, -1));
  }

  static void promise12QuartersAreRoundedUp() {
    FirstdanceAgency x = Bounds.fixed();
    int[] minutes = {0, 1, 14, 15, 16, 30, 31, 225, 226, 239, 240};
    int[] quarters = {0, 1, 1, 1, 2, 2, 3, 15, 16, 16, 16};
    for (int k = 0; k < minutes.length; k++) {
      Bounds.due("at " + minutes[k], x.late(0, minutes[k]), quarters[k]);
      Bounds.due("as asked", x.ofWedding(0, 12), quarters[k]);
    }
  }

  private static FirstdanceAgency over(int hour) {
    FirstdanceAgency x = Bounds.four();
    x.ask(0, 5, 0, hour - 2, 2, 0);
    x.fix(0);
    return x;
  }

  static void promise12MinutesBehindMidnightDoNotCount() {
    int[] hours = {19, 20, 21, 22, 23, 24};
    int[] most = {16, 16, 12, 8, 4, 0};
    for (int k = 0; k < hours.length; k++) {
      FirstdanceAgency x = over(hours[k]);
      Bounds.due("all of 240, over at " + hours[k], x.late(0, 240), most[k]);
      Bounds.due("late is what was told", x.ofWedding(0, 9), 240);
    }
    FirstdanceAgency x = over(23);
    Bounds.due("45 minutes", x.late(0, 45), 3);
    Bounds.due("46 minutes", x.late(0, 46), 4);
    Bounds.due("60 minutes", x.late(0, 60), 4);
    Bounds.due("61 minutes", x.late(0, 61), 4);
    Bounds.due("none", x.late(0, 0), 0);
    FirstdanceAgency y = over(24);
    Bounds.due("one minute behind it", y.late(0, 1), 0);
  }

  static void promise12WhatIsToldAgainReplaces() {
    FirstdanceAgency x = Bounds.fixed();
    x.late(0, 240);
    Bounds.due("less", x.late(0, 20), 2);
    Bounds.refused(x, "241", Bounds.ARGUMENT, () -> x.late(0, 241));
    Bounds.due("what was told last", x.ofWedding(0, 9), 20);
    Bounds.due("the other one is not late", x.ofWedding(1, 9), 0);
  }

  // ---- 13: pass

  static void promise13DaysAre1To60() {
    Bounds.range(Bounds::empty, Bounds.ARGUMENT, 1, 60, (x, v) -> {
      int today = x.pass(v);
      Bounds.due("returned", today, v);
      Bounds.due("today", x.desk(0), v);
    });
  }

  static void promise13TodayIs365AtMost() {
    FirstdanceAgency x = onDay(305);
    Bounds.due("just 365", x.pass(60), 365);
    Bounds.refused(x, "behind it", Bounds.STATE, () -> x.pass(1));
    Bounds.refused(x, "far behind it", Bounds.STATE, () -> x.pass(60));
    FirstdanceAgency y = onDay(306);
    Bounds.refused(y, "366", Bounds.STATE, () -> y.pass(60));
    Bounds.due("still that day", y.desk(0), 306);
    Bounds.due("just 365", y.pass(59), 365);
  }

  static void promise13TheFirstNamedIsThrown() {
    FirstdanceAgency x = onDay(365);
    Bounds.refused(x, "61 days, above 365", Bounds.ARGUMENT, () -> x.pass(61));
    Bounds.refused(x, "no day", Bounds.ARGUMENT, () -> x.pass(0));
    Bounds.refused(x, "a sum that wraps around", Bounds.ARGUMENT, () -> x.pass(Integer.MAX_VALUE));
  }

  static void promise13PlayedAsItsDayIsOver() {
    FirstdanceAgency x = Bounds.fixed();
    Bounds.passTo(x, 40);
    Bounds.due("on its day", x.ofWedding(0, 6), Bounds.FIXED);
    x.pass(1);
    Bounds.due("behind it", x.ofWedding(0, 6), Bounds.PLAYED);
    Bounds.due("the next one, on its day", x.ofWedding(1, 6), Bounds.FIXED);
    x.pass(1);
    Bounds.due("behind it", x.ofWedding(1, 6), Bounds.PLAYED);
  }

  static void promise13TheLastDayIsNeverOver() {
    FirstdanceAgency x = onDay(363);
    x.ask(0, 364, 0, 10, 1, 0);
    x.ask(0, 365, 0, 10, 1, 0);
    x.fix(0);
    x.fix(1);
    x.pass(2);
    Bounds.due("of the day 364", x.ofWedding(0, 6), Bounds.PLAYED);
    Bounds.due("of the day 365", x.ofWedding(1, 6), Bounds.FIXED);
  }

  static void promise13AnAskedOneIsLostAsItsDayIsOver() {
    FirstdanceAgency x = Bounds.four();
    x.ask(0, 0, 0, 10, 1, 0);
    x.ask(0, 1, 0, 10, 1, 0);
    Bounds.due("on its day", x.ofWedding(0, 6), Bounds.ASKED);
    x.pass(1);
    Bounds.due("behind it", x.ofWedding(0, 6), Bounds.LOST);
    Bounds.due("the next one, on its day", x.ofWedding(1, 6), Bounds.ASKED);
    x.pass(1);
    Bounds.due("behind it", x.ofWedding(1, 6), Bounds.LOST);
    Bounds.due("nothing is paid", x.desk(8), 0);
  }

  static void promise13AnAskedOneIsLostAsTheFifthDayBegins() {
    FirstdanceAgency x = Bounds.four();
    x.ask(0, 5, 0, 10, 1, 0);
    x.pass(1);
    x.ask(0, 300, 0, 10, 1, 0);
    x.pass(3);
    Bounds.due("the fourth day", x.ofWedding(0, 6), Bounds.ASKED);
    x.pass(1);
    Bounds.due("the fifth day, though it is its own", x.ofWedding(0, 6), Bounds.LOST);
    Bounds.due("told a day later", x.ofWedding(1, 6), Bounds.ASKED);
    x.pass(1);
    Bounds.due("its fifth day", x.ofWedding(1, 6), Bounds.LOST);
  }

  static void promise13TheQueueMovesUpAsOneHasWaitedTooLong() {
    FirstdanceAgency x = Bounds.four();
    x.ask(0, 300, 5, 10, 1, 0);
    x.pass(1);
    x.ask(0, 300, 0, 10, 1, 0);
    Bounds.refused(x, "the second one", Bounds.STATE, () -> x.fix(1));
    x.pass(4);
    Bounds.due("place of the one that waited", x.ofWedding(0, 11), Bounds.NONE);
    Bounds.due("place of the other", x.ofWedding(1, 11), 0);
    Bounds.due("it can be fixed", x.fix(1), 98);
  }

  static void promise13AFixedOneWaitsAsLongAsItTakes() {
    FirstdanceAgency x = Bounds.fixed();
    x.pass(5);
    Bounds.due("five days on", x.ofWedding(0, 6), Bounds.FIXED);
    x.pass(30);
    Bounds.due("five days ahead", x.ofWedding(0, 6), Bounds.FIXED);
  }

  static void promise13ManyDaysAsOneByOne() {
    FirstdanceAgency x = Bounds.fixed();
    FirstdanceAgency y = Bounds.fixed();
    x.ask(0, 3, 0, 10, 1, 0);
    y.ask(0, 3, 0, 10, 1, 0);
    x.pass(60);
    for (int k = 0; k < 60; k++) {
      y.pass(1);
    }
    Bounds.due("digest", x.digest(), y.digest());
    Bounds.due("both played", x.desk(6), 2);
  }

  static void promise13TheRestOfPriceIsPaid() {
    FirstdanceAgency x = Bounds.solo(8);
    x.ask(0, 0, 0, 10, 1, 0);
    x.fix(0);
    Bounds.due("a fifth", x.desk(8), 11);
    x.pass(1);
    Bounds.due("paid", x.ofWedding(0, 10), 59);
    Bounds.due("earned", x.ofPlayer(0, 5), 8);
    Bounds.due("cash", x.desk(8), 59 - 8);
  }

  /** Two of 3 an hour, one quarter late: 6 / 4 are paid, 3 / 4 earned by each. Three quarters: 18 / 4, 9 / 4. */
  static void promise13ExtraIsRoundedDownForAllAndForEach() {
    int[] minutes = {0, 15, 30, 45, 60};
    int[] extra = {0, 1, 3, 4, 6};
    int[] each = {0, 0, 1, 2, 3};
    for (int k = 0; k < minutes.length; k++) {
      FirstdanceAgency x = new FirstdanceAgency();
      x.player(1, 0, 0, 3);
      x.player(1, 0, 0, 3);
      x.band(2);
      x.ask(0, 0, 0, 10, 1, 0);
      Bounds.due("price", x.fix(0), 57);
      x.late(0, minutes[k]);
      x.pass(1);
      Bounds.due("paid at " + minutes[k], x.ofWedding(0, 10), 57 + extra[k]);
      Bounds.due("earned at " + minutes[k], x.ofPlayer(0, 5), 3 + each[k]);
      Bounds.due("and by the other", x.ofPlayer(1, 5), 3 + each[k]);
      Bounds.due("cash at " + minutes[k], x.desk(8), 57 + extra[k] - 6 - 2 * each[k]);
    }
  }

  static void promise13ExtraIsOfItsPlayersAlone() {
    FirstdanceAgency x = Bounds.fixed();
    x.late(0, 60);
    Bounds.passTo(x, 41);
    Bounds.due("40 an hour together", x.ofWedding(0, 10), 98 + 40);
    Bounds.due("1 does not play", x.ofPlayer(1, 5), 0);
    Bounds.due("hours are those of length", x.ofPlayer(0, 8), 1);
  }

  static void promise13CashCanBeBelow0() {
    FirstdanceAgency x = new FirstdanceAgency();
    x.player(1, 0, 0, 1);
    x.band(1);
    x.road(0, 1, 1);
    x.ask(0, 0, 1, 10, 1, 0);
    Bounds.due("price", x.fix(0), 63);
    x.road(0, 1, 9);
    x.pass(1);
    Bounds.due("earned by the roads of that moment", x.ofPlayer(0, 5), 91);
    Bounds.due("cash", x.desk(8), 63 - 91);
    Bounds.due("sound", x.isSound(), true);
  }

  static void promise13DriveCounts0WithoutAWay() {
    FirstdanceAgency x = new FirstdanceAgency();
    x.player(1, 0, 0, 1);
    x.band(1);
    x.road(0, 1, 9);
    x.ask(0, 0, 1, 10, 1, 0);
    x.fix(0);
    x.road(0, 1, 0);
    x.pass(1);
    Bounds.due("earned", x.ofPlayer(0, 5), 1);
    Bounds.due("played", x.ofWedding(0, 6), Bounds.PLAYED);
  }

  static void promise13SongsOfTheBestSetArePlayedOnceMore() {
    FirstdanceAgency x = new FirstdanceAgency();
    x.player(1, 7, 0, 1);
    x.band(1);
    x.song(2, 6, 5, 2);
    x.ask(0, 0, 0, 10, 1, 0);
    x.ask(0, 1, 0, 10, 1, 0);
    x.fix(0);
    x.fix(1);
    x.pass(1);
    int[] once = {1, 1, 0, 0};
    int[] twice = {1, 1, 1, 0};
    for (int s = 0; s < 4; s++) {
      Bounds.due("played, " + s, x.ofSong(s, 3), once[s]);
    }
    x.song(2, 6, 5, 9);
    x.pass(1);
    for (int s = 0; s < 4; s++) {
      Bounds.due("played then, " + s, x.ofSong(s, 3), twice[s]);
    }
  }

  static void promise13WithAllThatCanBeThere() {
    FirstdanceAgency x = Bounds.full();
    for (int w = 0; w < 5; w++) {
      x.fix(w);
    }
    Bounds.due("of the last band both wait", x.ofWedding(11, 11), 1);
    Bounds.passTo(x, 41);
    Bounds.due("played", x.desk(6), 5);
    Bounds.due("lost", x.desk(7), 9);
    Bounds.due("hours of 0", x.ofPlayer(0, 8), 5);
    Bounds.due("the last song", x.ofSong(15, 3), 5);
    Bounds.due("sound", x.isSound(), true);
  }

  static void promise13ALostOneIsNotPlayed() {
    FirstdanceAgency x = Bounds.fixed();
    x.cancel(0);
    Bounds.passTo(x, 41);
    Bounds.due("lost", x.ofWedding(0, 6), Bounds.LOST);
    Bounds.due("nobody earned", x.desk(10), 0);
    Bounds.due("no song is played", x.ofSong(0, 3), 0);
  }

  static void promise13PlayedAndLostAsOneDayIsOver() {
    FirstdanceAgency x = Bounds.solo(10);
    x.ask(0, 3, 0, 10, 1, 0);
    x.ask(1, 3, 0, 12, 1, 0);
    x.ask(2, 3, 0, 14, 1, 0);
    x.fix(2);
    x.pass(3);
    Bounds.due("on that day", x.desk(4) * 10 + x.desk(5), 21);
    x.pass(1);
    int[] states = {Bounds.LOST, Bounds.LOST, Bounds.PLAYED};
    for (int w = 0; w < 3; w++) {
      Bounds.due("state of " + w, x.ofWedding(w, 6), states[w]);
    }
  }

  static void promise13APromisedSongThatClashesIsNotPlayed() {
    FirstdanceAgency x = Bounds.solo(10);
    x.learn(0, 3 + 64);
    x.ask(0, 0, 0, 10, 1, 64);
    x.fix(0);
    Bounds.due("0 and 1 are longer than 6", x.songs(0), "0 1");
    x.pass(1);
    Bounds.due("the promised one", x.ofSong(6, 3), 0);
    Bounds.due("the others", x.ofSong(0, 3) * 10 + x.ofSong(1, 3), 11);
  }

  static void promise13WhatIsLearntByThenIsPlayed() {
    FirstdanceAgency x = Bounds.solo(10);
    x.ask(0, 1, 0, 10, 1, 0);
    x.fix(0);
    x.pass(1);
    x.learn(0, 1);
    x.pass(1);
    x.learn(0, 2);
    Bounds.due("learnt ahead", x.ofSong(0, 3), 1);
    Bounds.due("learnt behind", x.ofSong(1, 3), 0);
  }
}
