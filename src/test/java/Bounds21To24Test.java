/** Both sides of each boundary that the document names in the promises 21 to 24, and in the sections they lean on. */
public final class Bounds21To24Test {
  private static final int ALL = Bounds.ALL;

  public static void main(String[] args) {
    run();
    Checks.end("Bounds21To24Test");
  }

  static void run() {
    Bounds.runAll(Bounds21To24Test.class, 21, 24);
  }

  /** One who knows these songs and is fixed for the wedding 0. */
  private static FirstdanceAgency knows(int songs) {
    FirstdanceAgency x = Bounds.solo(1);
    x.learn(0, songs);
    x.ask(0, 40, 0, 10, 1, 0);
    x.fix(0);
    return x;
  }

  // ---- 21: set

  static void promise21PlayersThatAreThere() {
    Bounds.range(Bounds::empty, Bounds.ARGUMENT, 0, 0, (x, v) -> x.set(v, true));
    Bounds.range(Bounds::four, Bounds.ARGUMENT, 0, 15, (x, v) -> x.set(v, false));
    FirstdanceAgency x = Bounds.four();
    for (int k = 4; k < 32; k++) {
      int one = 1 << k;
      Bounds.refused(x, "one who is not there", Bounds.ARGUMENT, () -> x.set(one, true));
      Bounds.refused(x, "with those who are there", Bounds.ARGUMENT, () -> x.set(one | 15, true));
    }
  }

  static void promise21AllTenPlayers() {
    Bounds.range(() -> {
      FirstdanceAgency x = new FirstdanceAgency();
      for (int p = 0; p < 10; p++) {
        x.player(1, ALL, 0, 1);
      }
      return x;
    }, Bounds.ARGUMENT, 0, 1023, (x, v) -> x.set(v, true));
  }

  static void promise21NobodyHasNoSongs() {
    FirstdanceAgency x = Bounds.four();
    Bounds.due("songs of nobody", x.set(0, false), 0);
    Bounds.due("minutes of nobody", x.set(0, true), 0);
  }

  static void promise21MinutesOrHowMany() {
    FirstdanceAgency x = knows(3);
    Bounds.due("songs", x.set(1, false), 2);
    Bounds.due("minutes", x.set(1, true), 6);
  }

  static void promise21PlayableIfTwoKnowIt() {
    FirstdanceAgency x = new FirstdanceAgency();
    x.player(1, 32769, 0, 1);
    x.player(1, 32768, 0, 1);
    x.player(1, 1, 0, 1);
    x.song(15, 0, 5, 9);
    Bounds.due("by the first and the second", x.set(3, true), 9);
    Bounds.due("by the first and the third", x.set(5, true), 3);
    Bounds.due("by one of two alone", x.set(6, true), 0);
    Bounds.due("each by two of three", x.set(7, true), 12);
    x.learn(1, 1);
    x.learn(2, 32768);
    Bounds.due("each by all three", x.set(7, true), 12);
  }

  static void promise21PlayableIfTheOneKnowsIt() {
    FirstdanceAgency x = new FirstdanceAgency();
    x.player(1, 1, 0, 1);
    x.player(1, 0, 0, 1);
    Bounds.due("the one", x.set(1, false), 1);
    Bounds.due("the other", x.set(2, false), 0);
    Bounds.due("one of both", x.set(3, false), 0);
  }

  static void promise21KeysDifferBy2OrLess() {
    int[] keys = {0, 1, 2, 3, 6, 9, 10, 11};
    int[] songs = {2, 2, 2, 1, 1, 1, 2, 2};
    for (int k = 0; k < keys.length; k++) {
      FirstdanceAgency x = knows(3);
      x.song(1, keys[k], 5, 3);
      Bounds.due("0 and " + keys[k], x.set(1, false), songs[k]);
      x.song(0, keys[k], 5, 3);
      x.song(1, 0, 5, 3);
      Bounds.due(keys[k] + " and 0", x.set(1, false), songs[k]);
    }
  }

  static void promise21AroundTheCircleOf12() {
    FirstdanceAgency x = knows(3);
    for (int a = 0; a < 12; a++) {
      for (int b = 0; b < 12; b++) {
        int steps = 0;
        while ((a + steps) % 12 != b && (b + steps) % 12 != a) {
          steps++;
        }
        x.song(0, a, 5, 3);
        x.song(1, b, 5, 3);
        Bounds.due(a + " and " + b, x.set(1, false), steps <= 2 ? 2 : 1);
      }
    }
  }

  static void promise21OnlyThoseThatStandBesideEachOther() {
    FirstdanceAgency x = knows(7);
    x.song(0, 0, 0, 3);
    x.song(1, 2, 1, 3);
    x.song(2, 4, 2, 3);
    Bounds.due("0, 2 and 4", x.set(1, false), 3);
    x.song(2, 5, 2, 3);
    Bounds.due("0, 2 and 5", x.set(1, false), 2);
  }

  static void promise21EnergyNeverFalls() {
    FirstdanceAgency x = knows(7);
    x.song(0, 0, 5, 3);
    x.song(1, 4, 5, 3);
    x.song(2, 2, 5, 3);
    Bounds.due("of like energy only by their numbers", x.set(1, false), 2);
    x.song(1, 4, 6, 3);
    Bounds.due("0, 2, 1 by one more energy", x.set(1, false), 3);
    x.song(2, 2, 6, 3);
    Bounds.due("0, 1, 2 again", x.set(1, false), 2);
    x.song(1, 4, 9, 3);
    x.song(0, 0, 0, 3);
    Bounds.due("0, 2, 1 from 0 to 9", x.set(1, false), 3);
  }

  static void promise21TheMostMinutesNotTheMostSongs() {
    FirstdanceAgency x = knows(7);
    x.song(0, 0, 5, 2);
    x.song(1, 1, 5, 2);
    x.song(2, 6, 5, 5);
    Bounds.due("one of 5 minutes", x.set(1, true), 5);
    Bounds.due("one", x.set(1, false), 1);
    x.song(2, 6, 5, 4);
    Bounds.due("one of 4 minutes, or two of 2", x.set(1, true), 4);
    Bounds.due("two that begin with 0", x.set(1, false), 2);
    x.song(2, 6, 5, 3);
    Bounds.due("two of 2", x.set(1, true), 4);
  }

  static void promise21AllSixteenSongs() {
    FirstdanceAgency x = knows(ALL);
    for (int s = 0; s < 16; s++) {
      x.song(s, 7, 9, 9);
    }
    Bounds.due("songs", x.set(1, false), 16);
    Bounds.due("minutes", x.set(1, true), 144);
  }

  static void promise21TheSongsAsTheyAreAtFirst() {
    FirstdanceAgency x = knows(ALL);
    Bounds.due("all, by their numbers: 11 stands beside 0", x.set(1, false), 16);
  }

  // ---- 22: songs

  static void promise22WeddingsThatAreThere() {
    Bounds.numbers(Bounds::four, Bounds::asked, 2, (x, v) -> x.songs(v));
  }

  static void promise22WithoutPlayers() {
    FirstdanceAgency x = Bounds.asked();
    Bounds.due("asked", x.songs(0), "-");
    x.fix(0);
    Bounds.due("fixed", x.songs(0), "0 1 2 3 4 5 6 7 8 9 10 11 12 13 14 15");
    x.cancel(1);
    Bounds.due("lost, never fixed", x.songs(1), "-");
  }

  static void promise22WithoutSongsAndWithOne() {
    FirstdanceAgency x = knows(0);
    Bounds.due("none", x.songs(0), "-");
    x.learn(0, 32768);
    Bounds.due("one", x.songs(0), "15");
    x.learn(0, 16384);
    Bounds.due("two", x.songs(0), "14 15");
  }

  static void promise22OfTwoWhoKnowNothingTogether() {
    FirstdanceAgency x = new FirstdanceAgency();
    x.player(1, 1, 0, 1);
    x.player(1, 2, 0, 1);
    x.band(2);
    x.ask(0, 5, 0, 10, 1, 0);
    x.fix(0);
    Bounds.due("nothing playable", x.songs(0), "-");
    x.learn(0, 2);
    Bounds.due("one playable", x.songs(0), "1");
  }

  static void promise22OfLikeEnergyTheSmallerNumberFirst() {
    FirstdanceAgency x = knows(1 + 1024);
    x.song(10, 0, 5, 3);
    Bounds.due("of like energy", x.songs(0), "0 10");
    x.song(10, 0, 4, 3);
    Bounds.due("one less", x.songs(0), "10 0");
    x.song(10, 0, 6, 3);
    Bounds.due("one more", x.songs(0), "0 10");
  }

  static void promise22OfSeveralThatWhoseFirstSongIsTheSmallest() {
    FirstdanceAgency x = knows(3);
    x.song(0, 0, 9, 4);
    x.song(1, 6, 0, 4);
    Bounds.due("as long: the smaller number, though of more energy", x.songs(0), "0");
    x.song(1, 6, 0, 5);
    Bounds.due("one minute more", x.songs(0), "1");
    x.song(0, 0, 9, 6);
    Bounds.due("one minute more again", x.songs(0), "0");
  }

  static void promise22ThenWhoseSecondSongIsTheSmallest() {
    FirstdanceAgency x = knows(7);
    x.song(0, 0, 0, 3);
    x.song(1, 2, 9, 4);
    x.song(2, 10, 5, 4);
    Bounds.due("1 or 2 behind 0", x.songs(0), "0 1");
    x.song(2, 10, 5, 5);
    Bounds.due("2 is a minute longer", x.songs(0), "0 2");
  }

  static void promise22ThenWhoseThirdSongIsTheSmallest() {
    FirstdanceAgency x = knows(15);
    x.song(0, 0, 0, 2);
    x.song(1, 1, 1, 2);
    x.song(2, 3, 9, 4);
    x.song(3, 11, 5, 4);
    Bounds.due("2 or 3 at the end", x.songs(0), "0 1 2");
    x.song(2, 3, 9, 3);
    Bounds.due("3 is a minute longer", x.songs(0), "0 1 3");
  }

  /** A longer row of smaller numbers is as long in minutes as one song of a greater number, and the other way round. */
  static void promise22RowsOfUnlikeLengthAndLikeMinutes() {
    FirstdanceAgency x = knows(7);
    x.song(0, 6, 5, 6);
    x.song(1, 0, 5, 3);
    x.song(2, 1, 5, 3);
    Bounds.due("the one song of the smaller number", x.songs(0), "0");
    x.song(0, 0, 5, 3);
    x.song(1, 1, 5, 3);
    x.song(2, 6, 5, 6);
    Bounds.due("the two songs of smaller numbers", x.songs(0), "0 1");
  }

  static void promise22ByNowAndOfTheLastPlayers() {
    FirstdanceAgency x = Bounds.fixed();
    x.player(1, 3, 0, 1);
    x.ill(0, 40);
    x.ill(1, 40);
    Bounds.due("4 came, who knows two", x.songs(0), "0 1");
    x.learn(4, 4);
    Bounds.due("and learned one more", x.songs(0), "0 1 2");
    x.cancel(0);
    Bounds.due("lost", x.songs(0), "0 1 2");
    Bounds.passTo(x, 42);
    x.song(0, 0, 9, 3);
    Bounds.due("played, by now: 0 or 15 behind 14", x.songs(1), "1 2 3 4 5 6 7 8 9 10 11 12 13 14 0");
  }

  // ---- 23: desk

  static void promise23WhatIs0To12() {
    Bounds.range(Bounds::empty, Bounds.ARGUMENT, 0, 12, (x, v) -> x.desk(v));
    Bounds.range(Bounds::fixed, Bounds.ARGUMENT, 0, 12, (x, v) -> x.desk(v));
  }

  static void promise23EachCountAtItsMost() {
    FirstdanceAgency x = new FirstdanceAgency();
    for (int p = 0; p < 10; p++) {
      x.player(1, 0, 0, 1);
    }
    for (int b = 0; b < 6; b++) {
      x.band(1);
    }
    for (int w = 0; w < 14; w++) {
      x.ask(0, 365, 0, 10, 1, 0);
    }
    for (int p = 0; p < 10; p++) {
      for (int q = p + 1; q < 10; q++) {
        x.feud(p, q, true);
      }
    }
    int[] want = {0, 10, 6, 14, 14, 0, 0, 0, 0, 45, 0, 0, 0};
    for (int what = 0; what <= 12; what++) {
      Bounds.due("what " + what, x.desk(what), want[what]);
    }
  }

  static void promise23EachStateIsCounted() {
    FirstdanceAgency x = Bounds.solo(1);
    for (int w = 0; w < 4; w++) {
      x.ask(0, w, 0, 10, 1, 0);
    }
    x.fix(0);
    x.fix(1);
    x.cancel(3);
    x.pass(1);
    Bounds.due("asked", x.desk(4), 1);
    Bounds.due("fixed", x.desk(5), 1);
    Bounds.due("played", x.desk(6), 1);
    Bounds.due("lost", x.desk(7), 1);
    Bounds.due("all", x.desk(3), 4);
    x.pass(1);
    x.pass(1);
    Bounds.due("asked then", x.desk(4), 0);
    Bounds.due("fixed then", x.desk(5), 0);
    Bounds.due("played then", x.desk(6), 2);
    Bounds.due("lost then", x.desk(7), 2);
  }

  static void promise23CashOnBothSidesOf0() {
    FirstdanceAgency x = Bounds.solo(8);
    x.ask(0, 5, 0, 10, 1, 0);
    Bounds.due("at first", x.desk(8), 0);
    x.fix(0);
    Bounds.due("a fifth", x.desk(8), 11);
    x.ill(0, 5);
    Bounds.due("paid back", x.desk(8), -5);
  }

  static void promise23AllThatPlayersEarned() {
    FirstdanceAgency x = Bounds.fixed();
    Bounds.due("before", x.desk(10), 0);
    Bounds.passTo(x, 42);
    Bounds.due("twice 40", x.desk(10), 80);
  }

  static void promise23DaysOffOnTheFirstAndTheLastDayAndPastOnes() {
    FirstdanceAgency x = Bounds.four();
    x.ill(0, 0);
    x.ill(3, 365);
    x.ill(3, 0);
    Bounds.due("three", x.desk(11), 3);
    Bounds.passTo(x, 365);
    Bounds.due("past ones, too", x.desk(11), 3);
    x.ill(3, 365);
    Bounds.due("one that was off", x.desk(11), 3);
  }

  static void promise23GapOfHours() {
    FirstdanceAgency x = new FirstdanceAgency();
    Bounds.due("without players", x.desk(12), 0);
    x.player(1, 0, 0, 1);
    x.band(1);
    x.ask(0, 0, 0, 10, 6, 0);
    x.fix(0);
    x.pass(1);
    Bounds.due("one alone", x.desk(12), 0);
    x.player(1, 0, 0, 1);
    Bounds.due("6 and 0", x.desk(12), 6);
    x.ill(0, 1);
    x.ask(0, 1, 0, 10, 2, 0);
    x.fix(1);
    x.pass(1);
    Bounds.due("6 and 2", x.desk(12), 4);
    x.player(1, 0, 0, 1);
    Bounds.due("6, 2 and 0", x.desk(12), 6);
  }

  static void promise23GapOfHoursIfTheFirstOnePlayedLess() {
    FirstdanceAgency x = new FirstdanceAgency();
    x.player(1, 0, 0, 9);
    x.player(1, 0, 0, 1);
    x.band(1);
    x.ask(0, 0, 0, 10, 5, 0);
    x.fix(0);
    x.pass(1);
    Bounds.due("0 and 5", x.desk(12), 5);
  }

  // ---- 24: tell

  static void promise24WeddingsThatAreThere() {
    Bounds.numbers(Bounds::four, Bounds::asked, 2, (x, v) -> x.tell(v));
  }

  static void promise24EachState() {
    FirstdanceAgency x = Bounds.asked();
    Bounds.due("asked", x.tell(0), "0 on day 40 in 0, asked");
    x.fix(0);
    Bounds.due("fixed", x.tell(0), "0 on day 40 in 0, fixed: 0,2");
    x.cancel(1);
    Bounds.due("lost", x.tell(1), "1 on day 41 in 0, lost");
    Bounds.passTo(x, 41);
    Bounds.due("played", x.tell(0), "0 on day 40 in 0, played: 0,2");
  }

  static void promise24ALostOneIsToldWithoutItsPlayers() {
    FirstdanceAgency x = Bounds.fixed();
    x.cancel(0);
    Bounds.due("its players", x.ofWedding(0, 7), 5);
    Bounds.due("told", x.tell(0), "0 on day 40 in 0, lost");
  }

  static void promise24OnePlayerAndFive() {
    FirstdanceAgency x = new FirstdanceAgency();
    for (int p = 0; p < 10; p++) {
      x.player(63, 0, 0, p < 5 ? 2 : 1);
    }
    x.band(1);
    x.band(675);
    x.ask(0, 0, 0, 10, 1, 0);
    x.ask(1, 1, 0, 10, 1, 0);
    x.fix(0);
    x.fix(1);
    Bounds.due("one", x.tell(0), "0 on day 0 in 0, fixed: 5");
    Bounds.due("five", x.tell(1), "1 on day 1 in 0, fixed: 5,6,7,8,9");
  }

  static void promise24NumbersOfTwoAndThreeDigits() {
    FirstdanceAgency x = Bounds.four();
    for (int k = 0; k < 14; k++) {
      x.ask(0, 365, 5, 10, 1, 0);
    }
    Bounds.due("the last one", x.tell(13), "13 on day 365 in 5, asked");
    Bounds.due("the first one", x.tell(0), "0 on day 365 in 5, asked");
  }

  /** The line that the document shows. */
  static void promise24TheLineOfTheDocument() {
    FirstdanceAgency x = new FirstdanceAgency();
    x.player(1, 0, 1, 1);
    x.player(1, 0, 1, 9);
    x.player(2, 0, 1, 9);
    x.player(2, 0, 1, 1);
    x.band(4);
    x.ask(0, 6, 1, 10, 1, 0);
    x.ask(0, 6, 1, 10, 1, 0);
    x.ask(0, 5, 1, 10, 1, 0);
    x.fix(2);
    Bounds.due("told", x.tell(2), "2 on day 5 in 1, fixed: 0,3");
  }
}
