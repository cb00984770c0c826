/** Both sides of each boundary that the document names in the promises 14 to 18, and in the sections they lean on. */
public final class Bounds14To18Test {
  private static final int ALL = Bounds.ALL;

  public static void main(String[] args) {
    run();
    Checks.end("Bounds14To18Test");
  }

  static void run() {
    Bounds.runAll(Bounds14To18Test.class, 14, 18);
  }

  // ---- 14: ofPlayer

  static void promise14PlayersThatAreThere() {
    Bounds.numbers(Bounds::empty, Bounds::four, 4, (x, v) -> x.ofPlayer(v, 0));
  }

  static void promise14WhatIs0To8() {
    Bounds.range(Bounds::four, Bounds.ARGUMENT, 0, 8, (x, v) -> x.ofPlayer(0, v));
  }

  static void promise14TheFirstNamedIsThrown() {
    FirstdanceAgency x = Bounds.four();
    Bounds.refused(x, "player and what", Bounds.INDEX, () -> x.ofPlayer(4, 9));
    Bounds.refused(x, "player and what", Bounds.INDEX, () -> x.ofPlayer(-1, -1));
  }

  static void promise14EachWhat() {
    FirstdanceAgency x = new FirstdanceAgency();
    x.player(63, 4660, 5, 99);
    x.player(1, 0, 0, 1);
    x.feud(0, 1, true);
    int[] want = {63, 4660, 5, 99, 2, 0, 0, 0, 0};
    for (int what = 0; what <= 8; what++) {
      Bounds.due("what " + what, x.ofPlayer(0, what), want[what]);
    }
  }

  static void promise14FixedOnesAreNeitherPlayedNorLost() {
    FirstdanceAgency x = Bounds.fixed();
    Bounds.due("both fixed", x.ofPlayer(0, 6), 2);
    Bounds.due("none by 1", x.ofPlayer(1, 6), 0);
    x.cancel(1);
    Bounds.due("one is lost", x.ofPlayer(0, 6), 1);
    Bounds.due("a lost one is not played", x.ofPlayer(0, 7), 0);
    Bounds.passTo(x, 41);
    Bounds.due("the other is played", x.ofPlayer(0, 6), 0);
    Bounds.due("played", x.ofPlayer(0, 7), 1);
  }

  static void promise14AllFourteenPlayedBothEndsOfLength() {
    FirstdanceAgency x = Bounds.solo(99);
    for (int k = 0; k < 14; k++) {
      x.ask(0, k, 0, 10, k % 2 == 0 ? 6 : 1, 0);
      x.fix(k);
      x.late(k, 240);
      x.pass(1);
    }
    Bounds.due("fixed", x.ofPlayer(0, 6), 0);
    Bounds.due("played", x.ofPlayer(0, 7), 14);
    Bounds.due("hours", x.ofPlayer(0, 8), 7 * 7);
    Bounds.due("earned", x.ofPlayer(0, 5), 99 * 49 + 14 * (16 * 99 / 4));
  }

  static void promise14EarnedIsEver() {
    FirstdanceAgency x = Bounds.fixed();
    Bounds.passTo(x, 42);
    Bounds.due("two of one hour", x.ofPlayer(0, 5), 20);
    Bounds.due("by 2", x.ofPlayer(2, 5), 60);
    Bounds.due("by one who never played", x.ofPlayer(3, 5), 0);
  }

  // ---- 15: ofSong

  static void promise15SongIs0To15() {
    Bounds.range(Bounds::empty, Bounds.INDEX, 0, 15, (x, v) -> x.ofSong(v, 0));
  }

  static void promise15WhatIs0To5() {
    Bounds.range(Bounds::empty, Bounds.ARGUMENT, 0, 5, (x, v) -> x.ofSong(0, v));
  }

  static void promise15TheFirstNamedIsThrown() {
    FirstdanceAgency x = new FirstdanceAgency();
    Bounds.refused(x, "song and what", Bounds.INDEX, () -> x.ofSong(16, 6));
    Bounds.refused(x, "song and what", Bounds.INDEX, () -> x.ofSong(-1, -1));
  }

  static void promise15EachWhat() {
    FirstdanceAgency x = Bounds.four();
    x.song(15, 11, 9, 8);
    int[] want = {11, 9, 8, 0, 0, 4};
    for (int what = 0; what <= 5; what++) {
      Bounds.due("what " + what, x.ofSong(15, what), want[what]);
    }
  }

  /** One who knows these songs plays so many weddings. */
  private static FirstdanceAgency played(int songs, int times) {
    FirstdanceAgency x = Bounds.solo(1);
    x.learn(0, songs);
    for (int k = 0; k < times; k++) {
      x.ask(0, k, 0, 10, 1, 0);
      x.fix(k);
      x.pass(1);
    }
    return x;
  }

  static void promise15ShareIs0WithoutAny() {
    for (int s = 0; s < 16; s++) {
      Bounds.due("nothing played", played(0, 1).ofSong(s, 4), 0);
    }
    Bounds.due("known, not played", played(ALL, 0).ofSong(0, 4), 0);
  }

  static void promise15ShareOfTheOnlyOneIs1000() {
    FirstdanceAgency x = played(16, 1);
    Bounds.due("the only one", x.ofSong(4, 4), 1000);
    Bounds.due("another", x.ofSong(5, 4), 0);
    Bounds.due("as the only one twice", played(16, 2).ofSong(4, 4), 1000);
  }

  static void promise15ShareIsRoundedDown() {
    FirstdanceAgency x = played(7, 1);
    for (int s = 0; s < 3; s++) {
      Bounds.due("a third", x.ofSong(s, 4), 333);
    }
    x.song(0, 0, 5, 2);
    x.song(1, 1, 5, 2);
    x.song(2, 2, 5, 2);
    Bounds.due("a third of fewer minutes", x.ofSong(0, 4), 333);
    x.song(2, 2, 5, 3);
    Bounds.due("2 of 7 minutes", x.ofSong(0, 4), 285);
    Bounds.due("3 of 7 minutes", x.ofSong(2, 4), 428);
  }

  static void promise15ShareIsOfMinutesTimesHowOften() {
    FirstdanceAgency x = played(1, 1);
    x.learn(0, 2);
    x.ask(0, 1, 0, 10, 1, 0);
    x.fix(1);
    x.pass(1);
    Bounds.due("0 played", x.ofSong(0, 3), 2);
    Bounds.due("1 played", x.ofSong(1, 3), 1);
    Bounds.due("6 of 9 minutes", x.ofSong(0, 4), 666);
    Bounds.due("3 of 9 minutes", x.ofSong(1, 4), 333);
    x.song(1, 1, 5, 9);
    Bounds.due("6 of 15 minutes", x.ofSong(0, 4), 400);
    Bounds.due("9 of 15 minutes", x.ofSong(1, 4), 600);
  }

  static void promise15TheGreatestShares() {
    FirstdanceAgency x = Bounds.solo(1);
    x.learn(0, ALL);
    for (int s = 0; s < 16; s++) {
      x.song(s, 0, 0, 9);
    }
    for (int k = 0; k < 14; k++) {
      x.ask(0, k, 0, 10, 1, 0);
      x.fix(k);
      x.pass(1);
    }
    Bounds.due("played", x.ofSong(15, 3), 14);
    Bounds.due("a sixteenth", x.ofSong(15, 4), 62);
    Bounds.due("sound", x.isSound(), true);
  }

  static void promise15WhoKnowItFromNobodyToAll() {
    FirstdanceAgency x = new FirstdanceAgency();
    Bounds.due("without players", x.ofSong(15, 5), 0);
    for (int p = 0; p < 10; p++) {
      x.player(1, p == 3 ? ALL - 1 : ALL, 0, 1);
    }
    Bounds.due("all but one", x.ofSong(0, 5), 9);
    Bounds.due("all", x.ofSong(15, 5), 10);
  }

  // ---- 16: ofBand

  static void promise16BandsThatAreThere() {
    Bounds.numbers(Bounds::empty, () -> Bounds.solo(1), 3, (x, v) -> x.ofBand(v, 0));
  }

  static void promise16WhatIs0To8() {
    Bounds.range(Bounds::four, Bounds.ARGUMENT, 0, 8, (x, v) -> x.ofBand(0, v));
  }

  static void promise16TheFirstNamedIsThrown() {
    FirstdanceAgency x = Bounds.four();
    Bounds.refused(x, "band and what", Bounds.INDEX, () -> x.ofBand(1, 9));
    Bounds.refused(x, "band and what", Bounds.INDEX, () -> x.ofBand(-1, -1));
  }

  static void promise16HowManyItNeeds() {
    FirstdanceAgency x = new FirstdanceAgency();
    x.band(675);
    x.band(1);
    int[] most = {0, 0, 0, 1, 2, 2, 5, 0, 0};
    int[] least = {1, 0, 0, 0, 0, 0, 1, 0, 0};
    for (int what = 0; what <= 8; what++) {
      Bounds.due("of the greatest " + what, x.ofBand(0, what), most[what]);
      Bounds.due("of the smallest " + what, x.ofBand(1, what), least[what]);
    }
  }

  static void promise16ItsWeddingsEverAndPlayedOnes() {
    FirstdanceAgency x = Bounds.fixed();
    x.band(1);
    x.ask(1, 41, 0, 12, 1, 0);
    x.ask(0, 42, 0, 10, 1, 0);
    x.fix(3);
    Bounds.due("ever", x.ofBand(0, 7), 3);
    Bounds.due("ever, of the other", x.ofBand(1, 7), 1);
    Bounds.due("none played", x.ofBand(0, 8), 0);
    x.cancel(3);
    Bounds.due("a lost one counts", x.ofBand(0, 7), 3);
    Bounds.passTo(x, 43);
    Bounds.due("ever, behind all", x.ofBand(0, 7), 3);
    Bounds.due("played", x.ofBand(0, 8), 2);
    Bounds.due("one that was not fixed", x.ofBand(1, 8), 0);
  }

  // ---- 17: ofWedding

  static void promise17WeddingsThatAreThere() {
    Bounds.numbers(Bounds::four, Bounds::asked, 2, (x, v) -> x.ofWedding(v, 0));
  }

  static void promise17WhatIs0To12() {
    Bounds.range(Bounds::asked, Bounds.ARGUMENT, 0, 12, (x, v) -> x.ofWedding(0, v));
  }

  static void promise17TheFirstNamedIsThrown() {
    FirstdanceAgency x = Bounds.asked();
    Bounds.refused(x, "wedding and what", Bounds.INDEX, () -> x.ofWedding(2, 13));
    Bounds.refused(x, "wedding and what", Bounds.INDEX, () -> x.ofWedding(-1, -1));
  }

  static void promise17EachWhatOfAnAskedOne() {
    FirstdanceAgency x = Bounds.solo(1);
    x.ask(2, 365, 5, 18, 6, ALL);
    int[] want = {2, 365, 5, 18, 6, ALL, Bounds.ASKED, 0, 0, 0, 0, 0, 0};
    for (int what = 0; what <= 12; what++) {
      Bounds.due("what " + what, x.ofWedding(0, what), want[what]);
    }
  }

  static void promise17StatesFrom0To3() {
    FirstdanceAgency x = Bounds.asked();
    Bounds.due("asked", x.ofWedding(0, 6), 0);
    x.fix(0);
    Bounds.due("fixed", x.ofWedding(0, 6), 1);
    x.cancel(1);
    Bounds.due("lost", x.ofWedding(1, 6), 3);
    Bounds.passTo(x, 41);
    Bounds.due("played", x.ofWedding(0, 6), 2);
  }

  static void promise17PlayersAndPriceAre0OfOneNeverFixed() {
    FirstdanceAgency x = Bounds.asked();
    x.cancel(0);
    x.fix(1);
    Bounds.due("players of a lost one never fixed", x.ofWedding(0, 7), 0);
    Bounds.due("its price", x.ofWedding(0, 8), 0);
    Bounds.due("what was paid", x.ofWedding(0, 10), 0);
    x.cancel(1);
    Bounds.due("players of a lost one that was fixed", x.ofWedding(1, 7), 5);
    Bounds.due("its price", x.ofWedding(1, 8), 98);
  }

  static void promise17OfALostOneThePlayersThatItHadLast() {
    FirstdanceAgency x = Bounds.fixed();
    x.ill(0, 40);
    x.ill(1, 40);
    Bounds.due("not those at first", x.ofWedding(0, 7), 6);
    Bounds.due("state", x.ofWedding(0, 6), Bounds.LOST);
  }

  static void promise17APlayedOneKeepsAll() {
    FirstdanceAgency x = Bounds.fixed();
    x.late(0, 20);
    Bounds.passTo(x, 41);
    int[] want = {0, 40, 0, 10, 1, 0, Bounds.PLAYED, 5, 98, 20, 98 + 20, Bounds.NONE, 2};
    for (int what = 0; what <= 12; what++) {
      Bounds.due("what " + what, x.ofWedding(0, what), want[what]);
    }
  }

  static void promise17WhatWasPaidCanBeBelow0() {
    FirstdanceAgency x = Bounds.solo(99);
    x.ask(0, 5, 0, 10, 1, 0);
    x.fix(0);
    Bounds.due("a fifth of 168", x.ofWedding(0, 10), 33);
    x.ill(0, 5);
    Bounds.due("less a fifth, less a tenth", x.ofWedding(0, 10), -16);
  }

  static void promise17PlaceInTheQueue() {
    FirstdanceAgency x = Bounds.solo(1);
    x.ask(0, 5, 0, 10, 1, 0);
    x.ask(1, 5, 0, 10, 1, 0);
    x.ask(0, 6, 0, 10, 1, 0);
    x.ask(0, 5, 0, 11, 1, 0);
    x.ask(0, 5, 0, 12, 1, 0);
    int[] want = {0, 0, 0, 1, 2};
    for (int w = 0; w < 5; w++) {
      Bounds.due("place of " + w, x.ofWedding(w, 11), want[w]);
    }
    x.cancel(3);
    Bounds.due("of the one that is lost", x.ofWedding(3, 11), Bounds.NONE);
    Bounds.due("of the first one still", x.ofWedding(0, 11), 0);
    Bounds.due("of the one behind it", x.ofWedding(4, 11), 1);
    x.fix(0);
    Bounds.due("of the fixed one", x.ofWedding(0, 11), Bounds.NONE);
    Bounds.due("of the one that it lost", x.ofWedding(4, 11), Bounds.NONE);
    Bounds.due("of the other band", x.ofWedding(1, 11), 0);
  }

  // ---- 18: drive

  static void promise18TownsAre0To5Both() {
    Bounds.range(Bounds::empty, Bounds.INDEX, 0, 5, (x, v) -> x.drive(v, 0));
    Bounds.range(Bounds::empty, Bounds.INDEX, 0, 5, (x, v) -> x.drive(0, v));
  }

  static void promise18OneWrongTownIsEnough() {
    FirstdanceAgency x = new FirstdanceAgency();
    Bounds.refused(x, "both wrong", Bounds.INDEX, () -> x.drive(6, 6));
    Bounds.refused(x, "both below 0", Bounds.INDEX, () -> x.drive(-1, -1));
  }

  static void promise18TheSameTownIs0() {
    FirstdanceAgency x = new FirstdanceAgency();
    for (int town = 0; town < 6; town++) {
      Bounds.due("without roads", x.drive(town, town), 0);
    }
    x.road(0, 1, 1);
    Bounds.due("with a road there and back", x.drive(0, 0), 0);
  }

  static void promise18NoneWithoutAWay() {
    FirstdanceAgency x = new FirstdanceAgency();
    x.road(0, 1, 1);
    x.road(2, 3, 1);
    Bounds.due("on one side", x.drive(0, 1), 1);
    Bounds.due("from one side to the other", x.drive(0, 3), Bounds.NONE);
    x.road(1, 2, 1);
    Bounds.due("as both are joined", x.drive(0, 3), 3);
    Bounds.due("to a town without roads", x.drive(0, 5), Bounds.NONE);
    x.road(1, 2, 0);
    Bounds.due("as both are apart again", x.drive(3, 0), Bounds.NONE);
  }

  static void promise18TheFewestHoursNotTheFewestRoads() {
    FirstdanceAgency x = new FirstdanceAgency();
    x.road(0, 5, 9);
    for (int town = 0; town < 5; town++) {
      x.road(town, town + 1, 2);
    }
    Bounds.due("five roads of 2, or one of 9", x.drive(0, 5), 9);
    x.road(2, 3, 1);
    Bounds.due("nine hours both ways", x.drive(0, 5), 9);
    x.road(3, 4, 1);
    Bounds.due("eight hours over all towns", x.drive(0, 5), 8);
    Bounds.due("and back", x.drive(5, 0), 8);
  }

  static void promise18TheLongestWay() {
    FirstdanceAgency x = new FirstdanceAgency();
    int[] row = {3, 0, 5, 1, 4, 2};
    for (int k = 0; k < 5; k++) {
      x.road(row[k], row[k + 1], 9);
    }
    Bounds.due("all along", x.drive(3, 2), 45);
    Bounds.due("all back", x.drive(2, 3), 45);
    Bounds.due("but one", x.drive(0, 2), 36);
  }
}
