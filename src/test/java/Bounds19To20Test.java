/** Both sides of each boundary that the document names in the promises 19 and 20, and in the sections they lean on. */
public final class Bounds19To20Test {
  private static final int ALL = Bounds.ALL;

  public static void main(String[] args) {
    run();
    Checks.end("Bounds19To20Test");
  }

  static void run() {
    Bounds.runAll(Bounds19To20Test.class, 19, 20);
  }

  // ---- 19: free

  static void promise19PlayersThatAreThere() {
    Bounds.range(Bounds::asked, Bounds.INDEX, 0, 3, (x, v) -> Bounds.due("free", x.free(v, 0), true));
  }

  static void promise19WeddingsThatAreThere() {
    Bounds.numbers(Bounds::four, Bounds::asked, 2, (x, v) -> x.free(0, v));
    FirstdanceAgency x = new FirstdanceAgency();
    Bounds.refused(x, "neither", Bounds.INDEX, () -> x.free(0, 0));
  }

  static void promise19OffOnItsDayAlone() {
    FirstdanceAgency x = Bounds.asked();
    x.ill(0, 40);
    x.ill(1, 39);
    Bounds.due("off on its day", x.free(0, 0), false);
    Bounds.due("off on the day ahead", x.free(0, 1), true);
    Bounds.due("off on another day", x.free(1, 0), true);
  }

  static void promise19OffOnTheFirstAndTheLastDay() {
    FirstdanceAgency x = Bounds.four();
    x.ask(0, 0, 0, 10, 1, 0);
    x.ask(0, 365, 0, 10, 1, 0);
    x.ill(0, 0);
    x.ill(1, 365);
    Bounds.due("0 on the day 0", x.free(0, 0), false);
    Bounds.due("1 on the day 0", x.free(1, 0), true);
    Bounds.due("0 on the day 365", x.free(0, 1), true);
    Bounds.due("1 on the day 365", x.free(1, 1), false);
  }

  static void promise19ADriveFromItsHome() {
    FirstdanceAgency x = Bounds.four();
    x.ask(0, 5, 0, 10, 1, 0);
    x.ask(0, 5, 5, 10, 1, 0);
    Bounds.due("in its home", x.free(0, 0), true);
    Bounds.due("no way", x.free(0, 1), false);
    for (int town = 0; town < 5; town++) {
      x.road(town, town + 1, 9);
    }
    Bounds.due("45 hours away", x.free(0, 1), true);
    x.road(2, 3, 0);
    Bounds.due("no way any more", x.free(0, 1), false);
  }

  /** 0 plays a fixed wedding in the town 0 from 14 to 16; the town 1 is 2 hours away; the bands 1 and 2 are asked. */
  private static FirstdanceAgency busy() {
    FirstdanceAgency x = Bounds.solo(1);
    x.road(0, 1, 2);
    x.ask(0, 5, 0, 14, 2, 0);
    x.fix(0);
    return x;
  }

  private static void freeFor(int town, int start, int length, boolean want) {
    FirstdanceAgency x = busy();
    x.ask(1, 5, town, start, length, 0);
    Bounds.due("in " + town + " from " + start + " for " + length, x.free(0, 1), want);
  }

  static void promise19OverAheadOfTheLaterOneInTheSameTown() {
    freeFor(0, 16, 6, true);
    freeFor(0, 15, 1, false);
    freeFor(0, 17, 1, true);
    freeFor(0, 13, 1, true);
    freeFor(0, 13, 2, false);
    freeFor(0, 10, 4, true);
    freeFor(0, 10, 5, false);
    freeFor(0, 12, 1, true);
  }

  static void promise19OverByTheDriveAheadOfTheLaterOne() {
    freeFor(1, 18, 6, true);
    freeFor(1, 17, 1, false);
    freeFor(1, 19, 1, true);
    freeFor(1, 11, 1, true);
    freeFor(1, 11, 2, false);
    freeFor(1, 10, 2, true);
    freeFor(1, 10, 3, false);
  }

  static void promise19WithTheSameStart() {
    freeFor(0, 14, 1, false);
    freeFor(0, 14, 6, false);
    freeFor(1, 14, 1, false);
  }

  /** The one that is asked about has the smaller number here, and the fixed one the greater. */
  static void promise19TheOtherWayRoundByNumbers() {
    int[] starts = {14, 13, 12, 16, 15, 11};
    boolean[] want = {false, false, true, true, false, true};
    for (int k = 0; k < starts.length; k++) {
      FirstdanceAgency x = Bounds.solo(1);
      x.ask(1, 5, 0, starts[k], 2, 0);
      x.ask(0, 5, 0, 14, 2, 0);
      x.fix(1);
      Bounds.due("from " + starts[k], x.free(0, 0), want[k]);
    }
  }

  static void promise19ThereHasToBeADriveBetweenBoth() {
    FirstdanceAgency x = new FirstdanceAgency();
    x.player(1, 0, 1, 1);
    x.band(1);
    x.band(1);
    x.road(0, 1, 1);
    x.ask(0, 5, 0, 10, 1, 0);
    x.fix(0);
    x.ask(1, 5, 1, 22, 1, 0);
    Bounds.due("with a way", x.free(0, 1), true);
    x.road(0, 1, 0);
    Bounds.due("without one, however late", x.free(0, 1), false);
    x.cancel(0);
    Bounds.due("as the other is lost", x.free(0, 1), true);
  }

  static void promise19OnlyWhatIsFixedAndOfThatDayAndPlayedByIt() {
    FirstdanceAgency x = busy();
    x.player(1, 0, 0, 9);
    x.ask(1, 5, 0, 14, 2, 0);
    x.ask(2, 5, 0, 14, 2, 0);
    x.ask(1, 4, 0, 14, 2, 0);
    x.ask(1, 6, 0, 14, 2, 0);
    Bounds.due("that day", x.free(0, 1), false);
    Bounds.due("the day ahead", x.free(0, 3), true);
    Bounds.due("the day behind", x.free(0, 4), true);
    Bounds.due("one who plays none, though others are asked", x.free(1, 1), true);
    x.cancel(0);
    Bounds.due("as it is lost", x.free(0, 1), true);
  }

  static void promise19APlayedOneDoesNotMatter() {
    FirstdanceAgency x = busy();
    x.ask(1, 5, 0, 14, 2, 0);
    Bounds.due("while it is fixed", x.free(0, 1), false);
    Bounds.passTo(x, 6);
    Bounds.due("as it is played", x.free(0, 1), true);
  }

  static void promise19ItsOwnPartDoesNotMatter() {
    FirstdanceAgency x = busy();
    Bounds.due("it plays it", x.ofWedding(0, 7), 1);
    Bounds.due("and is free for it", x.free(0, 0), true);
    x.ill(0, 5);
    Bounds.due("unless it is off", x.free(0, 0), false);
  }

  static void promise19EachOfTheOthersCounts() {
    FirstdanceAgency x = busy();
    x.ask(1, 5, 0, 18, 2, 0);
    x.fix(1);
    x.ask(2, 5, 0, 16, 2, 0);
    x.ask(2, 5, 0, 16, 3, 0);
    x.ask(2, 5, 0, 15, 3, 0);
    Bounds.due("just between both", x.free(0, 2), true);
    Bounds.due("over too late", x.free(0, 3), false);
    Bounds.due("begun too soon", x.free(0, 4), false);
  }

  static void promise19WithAllThatCanBeThere() {
    FirstdanceAgency x = Bounds.full();
    for (int w = 0; w < 6; w++) {
      x.fix(w);
    }
    Bounds.due("0 plays at that hour", x.free(0, 13), false);
    Bounds.due("9 plays nothing", x.free(9, 13), true);
    Bounds.due("0 and its own part", x.free(0, 5), true);
  }

  // ---- 20: filling

  static void promise20WeddingsThatAreThere() {
    Bounds.numbers(Bounds::four, Bounds::asked, 2, (x, v) -> x.filling(v, 0));
  }

  static void promise20WhatIs0To3() {
    Bounds.range(Bounds::asked, Bounds.ARGUMENT, 0, 3, (x, v) -> x.filling(0, v));
  }

  static void promise20TheFirstNamedIsThrown() {
    FirstdanceAgency x = Bounds.asked();
    Bounds.refused(x, "wedding and what", Bounds.INDEX, () -> x.filling(2, 4));
    Bounds.refused(x, "wedding and what", Bounds.INDEX, () -> x.filling(-1, -1));
  }

  /** The four answers about the fillings of a wedding. */
  private static void fillings(FirstdanceAgency x, int wedding, int best, int cost, int count, int why) {
    int[] want = {best, cost, count, why};
    for (int what = 0; what <= 3; what++) {
      Bounds.due("of " + wedding + ", what " + what, x.filling(wedding, what), want[what]);
    }
  }

  static void promise20NoneIsThere() {
    FirstdanceAgency x = new FirstdanceAgency();
    x.band(1);
    x.ask(0, 5, 0, 10, 1, 0);
    fillings(x, 0, Bounds.NONE, Bounds.NONE, 0, 1);
    x.player(1, 0, 0, 1);
    fillings(x, 0, 1, 1, 1, 0);
  }

  static void promise20JustAsManyAsNeeded() {
    FirstdanceAgency x = new FirstdanceAgency();
    x.band(2);
    x.ask(0, 5, 0, 10, 1, 0);
    x.player(1, 0, 0, 3);
    fillings(x, 0, Bounds.NONE, Bounds.NONE, 0, 1);
    x.player(1, 0, 0, 4);
    fillings(x, 0, 3, 7, 1, 0);
    x.player(1, 0, 0, 5);
    fillings(x, 0, 3, 7, 3, 0);
  }

  static void promise20FiveOfTen() {
    FirstdanceAgency x = new FirstdanceAgency();
    for (int p = 0; p < 10; p++) {
      x.player(63, ALL, 0, 1);
    }
    x.band(675);
    x.ask(0, 5, 0, 10, 1, ALL);
    fillings(x, 0, 31, 5, 252, 0);
  }

  static void promise20OnlyThoseWhoAreFree() {
    FirstdanceAgency x = Bounds.asked();
    fillings(x, 0, 5, 40, 4, 0);
    x.ill(0, 40);
    fillings(x, 0, 6, 50, 2, 0);
    x.ill(2, 40);
    fillings(x, 0, 10, 60, 1, 0);
    x.ill(1, 40);
    fillings(x, 0, Bounds.NONE, Bounds.NONE, 0, 1);
  }

  static void promise20NoTwoWithAFeud() {
    FirstdanceAgency x = Bounds.asked();
    x.feud(0, 2, true);
    fillings(x, 0, 6, 50, 3, 0);
    x.feud(0, 1, true);
    fillings(x, 0, 6, 50, 3, 0);
    x.feud(1, 2, true);
    x.feud(1, 3, true);
    fillings(x, 0, 9, 50, 1, 0);
    x.feud(3, 0, true);
    fillings(x, 0, Bounds.NONE, Bounds.NONE, 0, 3);
  }

  static void promise20EachOneInstrumentThatItHas() {
    FirstdanceAgency x = new FirstdanceAgency();
    x.player(3, 0, 0, 1);
    x.player(4, 0, 0, 1);
    x.band(4);
    x.ask(0, 5, 0, 10, 1, 0);
    fillings(x, 0, Bounds.NONE, Bounds.NONE, 0, 2);
    x.player(1, 0, 0, 9);
    fillings(x, 0, 5, 10, 1, 0);
    x.player(2, 0, 0, 9);
    fillings(x, 0, 5, 10, 3, 0);
  }

  static void promise20TwoOfOneInstrument() {
    FirstdanceAgency x = new FirstdanceAgency();
    x.player(1, 0, 0, 1);
    x.player(2, 0, 0, 1);
    x.player(62, 0, 0, 1);
    x.band(2);
    x.ask(0, 5, 0, 10, 1, 0);
    fillings(x, 0, Bounds.NONE, Bounds.NONE, 0, 2);
    x.player(33, 0, 0, 1);
    fillings(x, 0, 9, 2, 1, 0);
  }

  /** Each of five can play two that stand side by side: only one of each way round gives all their places. */
  static void promise20GivenTheInstrumentsHoweverTheyAreHandedOut() {
    FirstdanceAgency x = new FirstdanceAgency();
    int[] two = {3, 6, 12, 24, 17};
    for (int p = 0; p < 5; p++) {
      x.player(two[p], 0, 0, 1);
    }
    x.band(121);
    x.ask(0, 5, 0, 10, 1, 0);
    fillings(x, 0, 31, 5, 1, 0);
    FirstdanceAgency y = new FirstdanceAgency();
    for (int p = 0; p < 5; p++) {
      y.player(p < 3 ? 3 : 28, 0, 0, 1);
    }
    y.band(121);
    y.ask(0, 5, 0, 10, 1, 0);
    fillings(y, 0, Bounds.NONE, Bounds.NONE, 0, 2);
  }

  static void promise20WhatAnotherBandNeedsDoesNotMatter() {
    FirstdanceAgency x = new FirstdanceAgency();
    x.player(1, 0, 0, 1);
    x.player(2, 0, 0, 2);
    x.band(1);
    x.band(3);
    x.band(4);
    for (int b = 0; b < 3; b++) {
      x.ask(b, 5, 0, 10, 1, 0);
    }
    for (int k = 0; k < 2; k++) {
      fillings(x, 0, 1, 1, 1, 0);
      fillings(x, 1, 2, 2, 1, 0);
      fillings(x, 2, 3, 3, 1, 0);
      fillings(x, 1, 2, 2, 1, 0);
    }
  }

  static void promise20TheLastInstrument() {
    FirstdanceAgency x = new FirstdanceAgency();
    x.player(31, 0, 0, 1);
    x.band(243);
    x.ask(0, 5, 0, 10, 1, 0);
    fillings(x, 0, Bounds.NONE, Bounds.NONE, 0, 2);
    x.player(32, 0, 0, 1);
    fillings(x, 0, 2, 1, 1, 0);
  }

  static void promise20EachPromisedSongIsKnownByTwo() {
    FirstdanceAgency x = new FirstdanceAgency();
    x.player(1, 32769, 0, 1);
    x.player(1, 1, 0, 1);
    x.player(1, 32768, 0, 1);
    x.band(2);
    x.ask(0, 5, 0, 10, 1, 1);
    x.ask(0, 6, 0, 10, 1, 32768);
    x.ask(0, 7, 0, 10, 1, 32769);
    x.ask(0, 8, 0, 10, 1, 0);
    fillings(x, 0, 3, 2, 1, 0);
    fillings(x, 1, 5, 2, 1, 0);
    fillings(x, 2, Bounds.NONE, Bounds.NONE, 0, 4);
    fillings(x, 3, 3, 2, 3, 0);
    x.learn(2, 1);
    fillings(x, 2, 5, 2, 1, 0);
  }

  static void promise20ByTwoOfThreeIsEnough() {
    FirstdanceAgency x = new FirstdanceAgency();
    x.player(1, 3, 0, 1);
    x.player(1, 5, 0, 1);
    x.player(2, 2, 0, 1);
    x.band(5);
    x.ask(0, 5, 0, 10, 1, 3);
    x.ask(0, 6, 0, 10, 1, 4);
    fillings(x, 0, 7, 3, 1, 0);
    fillings(x, 1, Bounds.NONE, Bounds.NONE, 0, 4);
    x.learn(2, 4);
    fillings(x, 1, 7, 3, 1, 0);
  }

  static void promise20ByTheOneIfThereIsOneOnly() {
    FirstdanceAgency x = new FirstdanceAgency();
    x.player(1, 1, 0, 1);
    x.player(1, 2, 0, 9);
    x.band(1);
    x.ask(0, 5, 0, 10, 1, 2);
    x.ask(0, 6, 0, 10, 1, 3);
    fillings(x, 0, 2, 9, 1, 0);
    fillings(x, 1, Bounds.NONE, Bounds.NONE, 0, 4);
  }

  static void promise20CostIsOfFeeLengthAndDrive() {
    FirstdanceAgency x = new FirstdanceAgency();
    x.player(1, 0, 0, 99);
    x.player(1, 0, 1, 1);
    x.road(0, 1, 1);
    x.band(1);
    x.band(2);
    x.ask(0, 5, 1, 10, 6, 0);
    x.ask(0, 6, 0, 10, 1, 0);
    x.ask(1, 7, 0, 10, 6, 0);
    fillings(x, 0, 2, 6, 2, 0);
    fillings(x, 1, 2, 1 + 10, 2, 0);
    fillings(x, 2, 3, 99 * 6 + 6 + 10, 1, 0);
    x.road(0, 1, 9);
    fillings(x, 1, 2, 91, 2, 0);
    x.ill(1, 5);
    fillings(x, 0, 1, 99 * 6 + 90, 1, 0);
  }

  /** 1 of the fee 10 is an hour away, and costs 20. */
  static void promise20CostOnBothSidesOfATie() {
    int[] fees = {19, 20, 21};
    int[] best = {1, 1, 2};
    int[] cost = {19, 20, 20};
    for (int k = 0; k < fees.length; k++) {
      FirstdanceAgency x = Bounds.solo(fees[k]);
      x.player(1, 0, 1, 10);
      x.road(0, 1, 1);
      x.ask(0, 5, 0, 10, 1, 0);
      fillings(x, 0, best[k], cost[k], 2, 0);
    }
  }

  static void promise20OfSeveralTheSmallestSet() {
    FirstdanceAgency x = new FirstdanceAgency();
    x.player(1, 0, 0, 6);
    x.player(1, 0, 0, 5);
    x.player(1, 0, 0, 5);
    x.player(1, 0, 0, 5);
    x.band(2);
    x.ask(0, 5, 0, 10, 1, 0);
    fillings(x, 0, 6, 10, 6, 0);
    x.player(1, 0, 0, 4);
    x.player(1, 0, 0, 6);
    fillings(x, 0, 18, 9, 15, 0);
  }

  /** 0 and 3 cost as much together as 1 and 2: 6 is the smaller set, though 0 is the smaller number. */
  static void promise20TheSmallestSetIsTheSmallestNumber() {
    FirstdanceAgency x = new FirstdanceAgency();
    x.player(1, 0, 0, 1);
    x.player(1, 0, 0, 5);
    x.player(1, 0, 0, 5);
    x.player(1, 0, 0, 9);
    x.band(2);
    x.feud(0, 1, true);
    x.feud(0, 2, true);
    x.ask(0, 5, 0, 10, 1, 0);
    fillings(x, 0, 6, 10, 4, 0);
  }

  static void promise20Why1FewerAreFreeThanNeeded() {
    FirstdanceAgency x = new FirstdanceAgency();
    x.player(2, 0, 0, 1);
    x.player(2, 0, 0, 1);
    x.band(2);
    x.ask(0, 5, 0, 10, 1, 1);
    x.feud(0, 1, true);
    Bounds.due("as many as needed, without the instrument", x.filling(0, 3), 2);
    x.ill(1, 5);
    Bounds.due("one fewer", x.filling(0, 3), 1);
  }

  static void promise20Why2NoInstrumentsAheadOfFeudsAndSongs() {
    FirstdanceAgency x = new FirstdanceAgency();
    x.player(1, 0, 0, 1);
    x.player(2, 0, 0, 1);
    x.band(2);
    x.ask(0, 5, 0, 10, 1, 1);
    x.feud(0, 1, true);
    Bounds.due("no instruments, a feud, no songs", x.filling(0, 3), 2);
    x.player(1, 0, 0, 1);
    Bounds.due("instruments, no songs", x.filling(0, 3), 4);
    x.feud(0, 2, true);
    Bounds.due("instruments, a feud, no songs", x.filling(0, 3), 4);
    x.learn(0, 1);
    x.learn(2, 1);
    Bounds.due("instruments, a feud, songs", x.filling(0, 3), 3);
    x.feud(2, 0, false);
    Bounds.due("instruments, no feud, songs", x.filling(0, 3), 0);
  }

  static void promise20Why2OnlyThoseWhoAreFreeCount() {
    FirstdanceAgency x = Bounds.asked();
    x.ill(2, 40);
    x.ill(3, 40);
    Bounds.due("two free, none with the instrument 1", x.filling(0, 3), 2);
    Bounds.due("the next day", x.filling(1, 3), 0);
  }

  static void promise20Why3WithNoFeudsThereWouldBeOne() {
    FirstdanceAgency x = new FirstdanceAgency();
    x.player(1, 1, 0, 1);
    x.player(1, 1, 0, 1);
    x.player(1, 0, 0, 1);
    x.band(2);
    x.ask(0, 5, 0, 10, 1, 1);
    x.feud(0, 1, true);
    Bounds.due("those without a feud do not know the song", x.filling(0, 3), 3);
    x.ask(0, 6, 0, 10, 1, 2);
    Bounds.due("nobody knows that song", x.filling(1, 3), 4);
    x.learn(2, 1);
    Bounds.due("another one knows it", x.filling(0, 3), 0);
  }

  static void promise20AlsoOfOneThatIsNotAsked() {
    FirstdanceAgency x = Bounds.fixed();
    fillings(x, 0, 5, 40, 4, 0);
    x.player(1, ALL, 0, 1);
    fillings(x, 0, 20, 31, 6, 0);
    x.cancel(0);
    fillings(x, 0, 20, 31, 6, 0);
    Bounds.passTo(x, 42);
    fillings(x, 1, 20, 31, 6, 0);
  }

  static void promise20WithAllThatCanBeThere() {
    FirstdanceAgency x = Bounds.full();
    fillings(x, 13, 1, 10, 10, 0);
    x.fix(0);
    fillings(x, 13, 1, 10, 10, 0);
    x.fix(1);
    fillings(x, 13, 2, 10, 9, 0);
    for (int p = 1; p < 10; p++) {
      x.ill(p, 40);
    }
    fillings(x, 13, Bounds.NONE, Bounds.NONE, 0, 1);
  }

  static void promise20AnotherOfItsBandAndDayIsInTheWayOfALostOne() {
    FirstdanceAgency x = Bounds.solo(1);
    x.ask(0, 5, 0, 10, 2, 0);
    x.ask(0, 5, 0, 11, 2, 0);
    fillings(x, 1, 1, 2, 1, 0);
    x.fix(0);
    fillings(x, 1, Bounds.NONE, Bounds.NONE, 0, 1);
    fillings(x, 0, 1, 2, 1, 0);
  }
}
