/** Both sides of each boundary that the document names in the promises 8 to 10, and in the sections they lean on. */
public final class Bounds08To10Test {
  private static final int ALL = Bounds.ALL;
  private static final int MIN = Integer.MIN_VALUE;
  private static final int MAX = Integer.MAX_VALUE;

  public static void main(String[] args) {
    run();
    Checks.end("Bounds08To10Test");
  }

  static void run() {
    Bounds.runAll(Bounds08To10Test.class, 8, 10);
  }

  /** solo(), and it is that day. */
  private static FirstdanceAgency onDay(int day) {
    FirstdanceAgency x = Bounds.solo(10);
    Bounds.passTo(x, day);
    return x;
  }

  // ---- 8: ask

  static void promise08BandsThatAreThere() {
    Bounds.numbers(Bounds::empty, () -> Bounds.solo(1), 3, (x, v) -> {
      x.ask(v, 5, 0, 10, 1, 0);
      Bounds.due("band", x.ofWedding(0, 0), v);
    });
  }

  static void promise08TownsAre0To5() {
    Bounds.range(Bounds::four, Bounds.INDEX, 0, 5, (x, v) -> {
      x.ask(0, 5, v, 10, 1, 0);
      Bounds.due("town", x.ofWedding(0, 2), v);
    });
  }

  static void promise08DayIsTodayTo365() {
    for (int today : new int[] {0, 1, 7, 364, 365}) {
      Bounds.range(() -> onDay(today), Bounds.ARGUMENT, today, 365, (x, v) -> {
        x.ask(0, v, 0, 10, 1, 0);
        Bounds.due("day", x.ofWedding(0, 1), v);
      });
    }
  }

  static void promise08StartIs10To22() {
    Bounds.range(Bounds::four, Bounds.ARGUMENT, 10, 22, (x, v) -> {
      x.ask(0, 5, 0, v, 1, 0);
      Bounds.due("start", x.ofWedding(0, 3), v);
    });
  }

  static void promise08LengthIs1To6() {
    Bounds.range(Bounds::four, Bounds.ARGUMENT, 1, 6, (x, v) -> {
      x.ask(0, 5, 0, 18, v, 0);
      Bounds.due("length", x.ofWedding(0, 4), v);
    });
  }

  static void promise08StartAndLengthAre24Together() {
    int[] longest = {6, 6, 6, 6, 6, 6, 6, 6, 6, 5, 4, 3, 2};
    for (int start = 10; start <= 22; start++) {
      int from = start;
      Bounds.range(Bounds::four, Bounds.ARGUMENT, 1, longest[start - 10], (x, v) -> x.ask(0, 5, 0, from, v, 0));
    }
    FirstdanceAgency x = Bounds.four();
    Bounds.refused(x, "23 and 1", Bounds.ARGUMENT, () -> x.ask(0, 5, 0, 23, 1, 0));
    Bounds.refused(x, "24 and 0", Bounds.ARGUMENT, () -> x.ask(0, 5, 0, 24, 0, 0));
    Bounds.refused(x, "a sum that wraps around", Bounds.ARGUMENT, () -> x.ask(0, 5, 0, MAX, MAX, 0));
    Bounds.refused(x, "two of the least", Bounds.ARGUMENT, () -> x.ask(0, 5, 0, MIN, MIN, 0));
  }

  static void promise08SongsAre0To65535() {
    Bounds.range(Bounds::four, Bounds.ARGUMENT, 0, 65535, (x, v) -> {
      x.ask(0, 5, 0, 10, 1, v);
      Bounds.due("promised songs", x.ofWedding(0, 5), v);
    });
  }

  static void promise08NumbersFrom0AndFourteenAtMost() {
    FirstdanceAgency x = Bounds.four();
    for (int k = 0; k < 14; k++) {
      Bounds.due("its number", x.ask(0, 5, 0, 10, 1, 0), k);
      Bounds.due("its place", x.ofWedding(k, 11), k);
    }
    Bounds.refused(x, "a fifteenth", Bounds.STATE, () -> x.ask(0, 6, 0, 10, 1, 0));
    for (int k = 0; k < 14; k++) {
      x.cancel(k);
    }
    Bounds.refused(x, "lost ones count, too", Bounds.STATE, () -> x.ask(0, 6, 0, 10, 1, 0));
    Bounds.due("fourteen", x.desk(3), 14);
  }

  static void promise08WhileOneOfThatBandAndDayIsFixed() {
    FirstdanceAgency x = Bounds.four();
    x.band(4);
    Bounds.due("the first one", x.ask(0, 5, 0, 10, 1, 0), 0);
    Bounds.due("behind one that is asked", x.ask(0, 5, 0, 12, 1, 0), 1);
    x.fix(0);
    Bounds.refused(x, "that band and day", Bounds.STATE, () -> x.ask(0, 5, 0, 12, 1, 0));
    Bounds.due("the day ahead", x.ask(0, 4, 0, 12, 1, 0), 2);
    Bounds.due("the day behind", x.ask(0, 6, 0, 12, 1, 0), 3);
    Bounds.due("another band", x.ask(1, 5, 0, 12, 1, 0), 4);
    x.cancel(0);
    Bounds.due("as it is cancelled", x.ask(0, 5, 0, 12, 1, 0), 5);
    Bounds.due("it is the first one", x.ofWedding(5, 11), 0);
  }

  static void promise08AsTheFixedOneIsLostByIllness() {
    FirstdanceAgency x = Bounds.solo(10);
    x.ask(0, 5, 0, 10, 1, 0);
    x.fix(0);
    Bounds.refused(x, "while it is fixed", Bounds.STATE, () -> x.ask(0, 5, 0, 10, 1, 0));
    x.ill(0, 5);
    Bounds.due("as it is lost", x.ask(0, 5, 0, 10, 1, 0), 1);
  }

  static void promise08ItIsAskedForToday() {
    FirstdanceAgency x = onDay(2);
    x.ask(0, 300, 0, 10, 1, 0);
    Bounds.due("asked", x.ofWedding(0, 6), Bounds.ASKED);
    Bounds.passTo(x, 6);
    Bounds.due("four days on", x.ofWedding(0, 6), Bounds.ASKED);
    x.pass(1);
    Bounds.due("as the fifth begins", x.ofWedding(0, 6), Bounds.LOST);
  }

  static void promise08TheFirstNamedIsThrown() {
    FirstdanceAgency x = Bounds.four();
    x.pass(3);
    Bounds.refused(x, "band and day", Bounds.INDEX, () -> x.ask(1, 2, 0, 10, 1, 0));
    Bounds.refused(x, "band and start", Bounds.INDEX, () -> x.ask(-1, 5, 0, 9, 1, 0));
    Bounds.refused(x, "town and length", Bounds.INDEX, () -> x.ask(0, 5, 6, 10, 7, 0));
    Bounds.refused(x, "town and songs", Bounds.INDEX, () -> x.ask(0, 5, -1, 10, 1, 65536));
    x.ask(0, 5, 0, 10, 1, 0);
    x.fix(0);
    Bounds.refused(x, "town, and one is fixed", Bounds.INDEX, () -> x.ask(0, 5, 6, 10, 1, 0));
    Bounds.refused(x, "start, and one is fixed", Bounds.ARGUMENT, () -> x.ask(0, 5, 0, 9, 1, 0));
    Bounds.refused(x, "songs, and one is fixed", Bounds.ARGUMENT, () -> x.ask(0, 5, 0, 10, 1, -1));
    for (int k = 1; k < 14; k++) {
      x.ask(0, 9, 0, 10, 1, 0);
    }
    Bounds.refused(x, "band, and there are 14", Bounds.INDEX, () -> x.ask(1, 9, 0, 10, 1, 0));
    Bounds.refused(x, "day, and there are 14", Bounds.ARGUMENT, () -> x.ask(0, 2, 0, 10, 1, 0));
    Bounds.refused(x, "length, and there are 14", Bounds.ARGUMENT, () -> x.ask(0, 9, 0, 10, 0, 0));
    Bounds.refused(x, "all of them", Bounds.INDEX, () -> x.ask(1, 2, 6, 9, 7, -1));
  }

  static void promise08WhatIsRefusedTakesNoNumber() {
    FirstdanceAgency x = Bounds.four();
    Bounds.refused(x, "25 o'clock", Bounds.ARGUMENT, () -> x.ask(0, 5, 0, 22, 3, 0));
    Bounds.due("the first one", x.ask(0, 5, 0, 22, 2, 0), 0);
    Bounds.due("one", x.ofBand(0, 7), 1);
  }

  // ---- 9: fix

  static void promise09WeddingsThatAreThere() {
    Bounds.numbers(Bounds::four, Bounds::asked, 2, (x, v) -> x.fix(v));
  }

  static void promise09FirstInItsQueue() {
    FirstdanceAgency x = Bounds.solo(10);
    x.ask(0, 5, 0, 10, 1, 0);
    x.ask(0, 5, 0, 12, 1, 0);
    x.ask(1, 5, 0, 14, 1, 0);
    x.ask(0, 6, 0, 10, 1, 0);
    Bounds.refused(x, "the second one", Bounds.STATE, () -> x.fix(1));
    Bounds.due("another band", x.fix(2), 62);
    Bounds.due("another day", x.fix(3), 62);
    x.cancel(0);
    Bounds.due("the second one, now the first", x.fix(1), 62);
  }

  static void promise09BehindOneThatHasNoFillingStillSecond() {
    FirstdanceAgency x = Bounds.solo(10);
    x.ask(0, 5, 5, 10, 1, 0);
    x.ask(0, 5, 0, 10, 1, 0);
    Bounds.refused(x, "no way to the first one", Bounds.STATE, () -> x.fix(0));
    Bounds.refused(x, "the second one", Bounds.STATE, () -> x.fix(1));
    x.road(0, 5, 9);
    Bounds.due("with a way", x.fix(0), (10 + 90) * 6 / 5 + 50);
  }

  static void promise09OnlyAnAskedOne() {
    FirstdanceAgency x = Bounds.fixed();
    Bounds.refused(x, "a fixed one", Bounds.STATE, () -> x.fix(0));
    x.cancel(0);
    Bounds.refused(x, "a lost one", Bounds.STATE, () -> x.fix(0));
    Bounds.passTo(x, 42);
    Bounds.refused(x, "a played one", Bounds.STATE, () -> x.fix(1));
  }

  static void promise09UntilItHasWaitedTooLong() {
    FirstdanceAgency x = Bounds.asked();
    x.pass(4);
    Bounds.due("four days on", x.fix(0), 98);
    x.pass(1);
    Bounds.refused(x, "five days on", Bounds.STATE, () -> x.fix(1));
  }

  static void promise09OnItsOwnDay() {
    FirstdanceAgency x = Bounds.solo(10);
    x.ask(0, 1, 0, 10, 1, 0);
    x.ask(1, 0, 0, 10, 1, 0);
    x.pass(1);
    Bounds.due("today", x.fix(0), 62);
    Bounds.refused(x, "yesterday", Bounds.STATE, () -> x.fix(1));
  }

  static void promise09WithoutAFilling() {
    FirstdanceAgency x = Bounds.solo(10);
    x.ask(0, 5, 0, 10, 1, 1);
    Bounds.refused(x, "nobody knows the song", Bounds.STATE, () -> x.fix(0));
    x.learn(0, 1);
    Bounds.due("as it is known", x.fix(0), 62);
    x.ask(1, 5, 0, 10, 1, 0);
    Bounds.refused(x, "nobody is free", Bounds.STATE, () -> x.fix(1));
    x.player(1, 0, 0, 99);
    Bounds.due("as one more is there", x.fix(1), 168);
  }

  static void promise09PriceIsRoundedDown() {
    int[] fees = {1, 4, 5, 6, 8, 9, 10, 99};
    int[] prices = {51, 54, 56, 57, 59, 60, 62, 168};
    for (int k = 0; k < fees.length; k++) {
      FirstdanceAgency x = Bounds.solo(fees[k]);
      x.ask(0, 5, 0, 10, 1, 0);
      Bounds.due("price at cost " + fees[k], x.fix(0), prices[k]);
      Bounds.due("it stays with it", x.ofWedding(0, 8), prices[k]);
    }
  }

  static void promise09AFifthIsPaidRoundedDown() {
    int[] fees = {4, 8, 9};
    int[] fifths = {10, 11, 12};
    for (int k = 0; k < fees.length; k++) {
      FirstdanceAgency x = Bounds.solo(fees[k]);
      x.ask(0, 5, 0, 10, 1, 0);
      x.fix(0);
      Bounds.due("paid at cost " + fees[k], x.ofWedding(0, 10), fifths[k]);
      Bounds.due("cash", x.desk(8), fifths[k]);
    }
  }

  static void promise09TheGreatestPrice() {
    FirstdanceAgency x = new FirstdanceAgency();
    for (int p = 0; p < 5; p++) {
      x.player(63, 0, 0, 99);
      x.road(p, p + 1, 9);
    }
    x.band(675);
    x.ask(0, 365, 5, 18, 6, 0);
    Bounds.due("five of 99 for 6 hours, 45 hours away", x.fix(0), 5 * (99 * 6 + 450) * 6 / 5 + 50);
    Bounds.due("all five", x.ofWedding(0, 7), 31);
    Bounds.due("a fifth", x.desk(8), 6314 / 5);
  }

  static void promise09PriceIsByTheRoadsOfThatMoment() {
    FirstdanceAgency x = Bounds.solo(10);
    x.road(0, 1, 2);
    x.ask(0, 5, 1, 10, 1, 0);
    x.road(0, 1, 3);
    Bounds.due("three hours as it is fixed", x.fix(0), 40 * 6 / 5 + 50);
    x.road(0, 1, 9);
    Bounds.due("a cost of nine by now", x.filling(0, 1), 100);
    Bounds.due("the price stays", x.ofWedding(0, 8), 98);
    Bounds.due("what was paid stays", x.ofWedding(0, 10), 19);
    Bounds.due("so does what they owe", x.cancel(0), 98);
  }

  static void promise09TheOthersInItsQueueAreLost() {
    FirstdanceAgency x = Bounds.solo(10);
    x.ask(0, 5, 0, 10, 1, 0);
    x.ask(1, 5, 0, 12, 1, 0);
    x.ask(0, 6, 0, 10, 1, 0);
    x.ask(0, 5, 0, 14, 1, 0);
    x.ask(0, 5, 0, 16, 1, 0);
    x.fix(0);
    int[] states = {Bounds.FIXED, Bounds.ASKED, Bounds.ASKED, Bounds.LOST, Bounds.LOST};
    for (int w = 0; w < 5; w++) {
      Bounds.due("state of " + w, x.ofWedding(w, 6), states[w]);
    }
    Bounds.due("they had no players", x.ofWedding(3, 7), 0);
    Bounds.due("nothing was paid", x.ofWedding(4, 10), 0);
  }

  static void promise09WithTheBestFilling() {
    FirstdanceAgency x = Bounds.asked();
    x.fix(0);
    Bounds.due("the cheapest", x.ofWedding(0, 7), 5);
    x.learn(0, 0);
    x.player(3, ALL, 0, 1);
    x.fix(1);
    Bounds.due("with the new one", x.ofWedding(1, 7), 17);
  }

  static void promise09WithAllThatCanBeThere() {
    FirstdanceAgency x = Bounds.full();
    Bounds.refused(x, "the last one is not the first in its queue", Bounds.STATE, () -> x.fix(13));
    Bounds.due("fix the first one of that band", x.fix(1), 62);
    Bounds.due("the last one is lost", x.ofWedding(13, 6), Bounds.LOST);
    Bounds.due("and the one ahead of it", x.ofWedding(7, 6), Bounds.LOST);
    Bounds.refused(x, "the last one is lost", Bounds.STATE, () -> x.fix(13));
    Bounds.due("the others wait", x.desk(4), 11);
  }

  // ---- 10: cancel

  static void promise10WeddingsThatAreThere() {
    Bounds.numbers(Bounds::four, Bounds::asked, 2, (x, v) -> x.cancel(v));
  }

  static void promise10AnAskedOneOwesNothing() {
    FirstdanceAgency x = Bounds.asked();
    Bounds.due("owed", x.cancel(0), 0);
    Bounds.due("lost", x.ofWedding(0, 6), Bounds.LOST);
    Bounds.due("paid", x.ofWedding(0, 10), 0);
    Bounds.due("cash", x.desk(8), 0);
    Bounds.due("the other one waits", x.ofWedding(1, 6), Bounds.ASKED);
  }

  /** solo(10) for 3 hours: the price is 30 * 6 / 5 + 50 = 86, and 17 of it are paid. */
  private static void owes(int ahead, int owed) {
    FirstdanceAgency x = onDay(3);
    x.ask(0, 3 + ahead, 0, 10, 3, 0);
    Bounds.due("price", x.fix(0), 86);
    Bounds.due("paid ahead", x.desk(8), 17);
    Bounds.due("owed " + ahead + " days ahead", x.cancel(0), owed);
    Bounds.due("paid then", x.ofWedding(0, 10), owed);
    Bounds.due("cash then", x.desk(8), owed);
  }

  static void promise10With30DaysOrMore20Hundredths() {
    owes(362, 17);
    owes(31, 17);
    owes(30, 17);
  }

  static void promise10With29To14Days40Hundredths() {
    owes(29, 34);
    owes(15, 34);
    owes(14, 34);
  }

  static void promise10With13To7Days70Hundredths() {
    owes(13, 60);
    owes(8, 60);
    owes(7, 60);
  }

  static void promise10With6DaysOrFewerAll() {
    owes(6, 86);
    owes(1, 86);
    owes(0, 86);
  }

  static void promise10DaysAreCountedFromToday() {
    FirstdanceAgency x = Bounds.fixed();
    x.pass(10);
    Bounds.due("40 less 10 days ahead", x.cancel(0), 98 * 20 / 100);
    FirstdanceAgency y = Bounds.fixed();
    y.pass(11);
    Bounds.due("40 less 11 days ahead", y.cancel(0), 98 * 40 / 100);
  }

  static void promise10WhatIsMoreThanWasPaidIsPaid() {
    FirstdanceAgency x = Bounds.fixed();
    Bounds.due("cash ahead", x.desk(8), 38);
    Bounds.due("owed: no more than was paid", x.cancel(0), 19);
    Bounds.due("cash stays", x.desk(8), 38);
    x.pass(41);
    Bounds.due("owed: all", x.cancel(1), 98);
    Bounds.due("cash", x.desk(8), 19 + 98);
    Bounds.due("paid for it", x.ofWedding(1, 10), 98);
  }

  static void promise10ALostOneKeepsItsPlayersAndPrice() {
    FirstdanceAgency x = Bounds.fixed();
    x.cancel(0);
    Bounds.due("lost", x.ofWedding(0, 6), Bounds.LOST);
    Bounds.due("players", x.ofWedding(0, 7), 5);
    Bounds.due("price", x.ofWedding(0, 8), 98);
    Bounds.due("it is no longer played by 0", x.ofPlayer(0, 6), 1);
  }

  static void promise10ExtraIsNotOwed() {
    FirstdanceAgency x = Bounds.fixed();
    x.pass(35);
    x.late(0, 240);
    Bounds.due("all of the price, no more", x.cancel(0), 98);
    Bounds.due("paid", x.ofWedding(0, 10), 98);
    Bounds.due("nobody earned", x.desk(10), 0);
  }

  static void promise10FilledAnewOwesOfTheOldPrice() {
    FirstdanceAgency x = Bounds.fixed();
    x.ill(0, 40);
    x.pass(30);
    Bounds.due("10 days ahead", x.cancel(0), 98 * 70 / 100);
    Bounds.due("cash", x.desk(8), 19 + 68);
  }

  static void promise10OnItsDayAndBehindIt() {
    FirstdanceAgency x = Bounds.fixed();
    Bounds.passTo(x, 41);
    Bounds.refused(x, "yesterday's is played", Bounds.STATE, () -> x.cancel(0));
    Bounds.due("today's", x.cancel(1), 98);
    Bounds.refused(x, "it is lost", Bounds.STATE, () -> x.cancel(1));
  }

  static void promise10ALostOneThatWasAsked() {
    FirstdanceAgency x = Bounds.asked();
    x.pass(4);
    Bounds.due("four days on", x.cancel(0), 0);
    x.pass(1);
    Bounds.refused(x, "it has waited too long", Bounds.STATE, () -> x.cancel(1));
    Bounds.refused(x, "it was cancelled", Bounds.STATE, () -> x.cancel(0));
  }

  static void promise10WithAllThatCanBeThere() {
    FirstdanceAgency x = Bounds.full();
    x.cancel(1);
    x.cancel(7);
    Bounds.due("the last one is the first in its queue", x.fix(13), 62);
    Bounds.due("40 days ahead", x.cancel(13), 12);
    Bounds.due("three are lost", x.desk(7), 3);
  }

  static void promise10TheQueueMovesUp() {
    FirstdanceAgency x = Bounds.four();
    for (int k = 0; k < 3; k++) {
      x.ask(0, 5, 0, 10, 1, 0);
    }
    x.cancel(0);
    Bounds.due("the second one", x.ofWedding(1, 11), 0);
    Bounds.due("the third one", x.ofWedding(2, 11), 1);
    Bounds.due("the one that is lost", x.ofWedding(0, 11), Bounds.NONE);
    Bounds.due("fix the second one", x.fix(1), 98);
  }
}
