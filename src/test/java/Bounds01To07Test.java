/** Both sides of each boundary that the document names in the promises 1 to 7, and in the sections they lean on. */
public final class Bounds01To07Test {
  private static final int ALL = Bounds.ALL;
  private static final int MIN = Integer.MIN_VALUE;
  private static final int MAX = Integer.MAX_VALUE;

  public static void main(String[] args) {
    run();
    Checks.end("Bounds01To07Test");
  }

  static void run() {
    Bounds.runAll(Bounds01To07Test.class, 1, 7);
  }

  // ---- 1: a new object

  static void promise01HasNoPlayersBandsWeddings() {
    FirstdanceAgency x = new FirstdanceAgency();
    Bounds.due("players", x.desk(1), 0);
    Bounds.due("bands", x.desk(2), 0);
    Bounds.due("weddings", x.desk(3), 0);
    Bounds.refused(x, "the player 0", Bounds.INDEX, () -> x.ofPlayer(0, 0));
    Bounds.refused(x, "the band 0", Bounds.INDEX, () -> x.ofBand(0, 0));
    Bounds.refused(x, "the wedding 0", Bounds.INDEX, () -> x.ofWedding(0, 0));
  }

  static void promise01TodayAndCashAndAllCountsAre0() {
    FirstdanceAgency x = new FirstdanceAgency();
    for (int what = 0; what <= 12; what++) {
      Bounds.due("desk " + what, x.desk(what), 0);
    }
  }

  static void promise01KeysAreNumbersModulo12() {
    FirstdanceAgency x = new FirstdanceAgency();
    int[] want = {0, 1, 2, 3, 4, 5, 6, 7, 8, 9, 10, 11, 0, 1, 2, 3};
    for (int s = 0; s < 16; s++) {
      Bounds.due("key of " + s, x.ofSong(s, 0), want[s]);
    }
  }

  static void promise01EnergyIs5AndMinutesAre3() {
    FirstdanceAgency x = new FirstdanceAgency();
    for (int s = 0; s < 16; s++) {
      Bounds.due("energy of " + s, x.ofSong(s, 1), 5);
      Bounds.due("minutes of " + s, x.ofSong(s, 2), 3);
      Bounds.due("played, " + s, x.ofSong(s, 3), 0);
      Bounds.due("share of " + s, x.ofSong(s, 4), 0);
      Bounds.due("who know " + s, x.ofSong(s, 5), 0);
    }
  }

  static void promise01NoRoads() {
    FirstdanceAgency x = new FirstdanceAgency();
    for (int a = 0; a < 6; a++) {
      for (int b = 0; b < 6; b++) {
        Bounds.due("drive of " + a + " and " + b, x.drive(a, b), a == b ? 0 : Bounds.NONE);
      }
    }
  }

  static void promise01TwoAgenciesShareNothing() {
    FirstdanceAgency x = Bounds.fixed();
    x.road(0, 1, 1);
    x.song(0, 9, 9, 9);
    x.ill(0, 40);
    FirstdanceAgency y = new FirstdanceAgency();
    Bounds.due("digest", y.digest(), new FirstdanceAgency().digest());
    Bounds.due("drive", y.drive(0, 1), Bounds.NONE);
    Bounds.due("minutes", y.ofSong(0, 2), 3);
  }

  // ---- 2: player

  static void promise02HomeIs0To5() {
    Bounds.range(Bounds::empty, Bounds.INDEX, 0, 5, (x, v) -> {
      x.player(1, 0, v, 1);
      Bounds.due("home", x.ofPlayer(0, 2), v);
    });
  }

  static void promise02InstrumentsAre1To63() {
    Bounds.range(Bounds::empty, Bounds.ARGUMENT, 1, 63, (x, v) -> {
      x.player(v, 0, 0, 1);
      Bounds.due("instruments", x.ofPlayer(0, 0), v);
    });
  }

  static void promise02SongsAre0To65535() {
    Bounds.range(Bounds::empty, Bounds.ARGUMENT, 0, 65535, (x, v) -> {
      x.player(1, v, 0, 1);
      Bounds.due("songs", x.ofPlayer(0, 1), v);
    });
  }

  static void promise02FeeIs1To99() {
    Bounds.range(Bounds::empty, Bounds.ARGUMENT, 1, 99, (x, v) -> {
      x.player(1, 0, 0, v);
      Bounds.due("fee", x.ofPlayer(0, 3), v);
    });
  }

  static void promise02NumbersFrom0AndTenAtMost() {
    FirstdanceAgency x = new FirstdanceAgency();
    for (int k = 0; k < 10; k++) {
      Bounds.due("its number", x.player(1, 0, 0, 1 + k), k);
      Bounds.due("how many", x.desk(1), k + 1);
    }
    Bounds.refused(x, "an eleventh", Bounds.STATE, () -> x.player(1, 0, 0, 1));
    Bounds.due("ten still", x.desk(1), 10);
    Bounds.due("the last one is as told", x.ofPlayer(9, 3), 10);
  }

  static void promise02WhatIsRefusedTakesNoNumber() {
    FirstdanceAgency x = new FirstdanceAgency();
    Bounds.refused(x, "fee 0", Bounds.ARGUMENT, () -> x.player(1, 0, 0, 0));
    Bounds.due("the first one", x.player(1, 0, 0, 1), 0);
    Bounds.refused(x, "home 6", Bounds.INDEX, () -> x.player(1, 0, 6, 1));
    Bounds.due("the second one", x.player(1, 0, 0, 1), 1);
  }

  static void promise02TheFirstNamedIsThrown() {
    FirstdanceAgency x = new FirstdanceAgency();
    Bounds.refused(x, "home and instruments", Bounds.INDEX, () -> x.player(0, 0, 6, 1));
    Bounds.refused(x, "home and songs", Bounds.INDEX, () -> x.player(1, -1, 6, 1));
    Bounds.refused(x, "home and fee", Bounds.INDEX, () -> x.player(1, 0, -1, 0));
    for (int k = 0; k < 10; k++) {
      x.player(1, 0, 0, 1);
    }
    Bounds.refused(x, "home, and there are 10", Bounds.INDEX, () -> x.player(1, 0, 6, 1));
    Bounds.refused(x, "instruments, and there are 10", Bounds.ARGUMENT, () -> x.player(64, 0, 0, 1));
    Bounds.refused(x, "songs, and there are 10", Bounds.ARGUMENT, () -> x.player(1, 65536, 0, 1));
    Bounds.refused(x, "fee, and there are 10", Bounds.ARGUMENT, () -> x.player(1, 0, 0, 100));
    Bounds.refused(x, "all of them", Bounds.INDEX, () -> x.player(0, -1, -1, 0));
  }

  static void promise02ANewOneHasAndPlayedNothing() {
    FirstdanceAgency x = Bounds.fixed();
    int p = x.player(63, ALL, 0, 1);
    for (int what = 4; what <= 8; what++) {
      Bounds.due("of the new one " + what, x.ofPlayer(p, what), 0);
    }
    Bounds.due("what is fixed stays", x.ofWedding(0, 7), 5);
  }

  // ---- 3: learn

  static void promise03PlayersThatAreThere() {
    Bounds.numbers(Bounds::empty, Bounds::four, 4, (x, v) -> x.learn(v, 0));
  }

  static void promise03SongsAre0To65535() {
    Bounds.range(Bounds::four, Bounds.ARGUMENT, 0, 65535, (x, v) -> x.learn(0, v));
  }

  static void promise03FromNoneToAll() {
    FirstdanceAgency x = Bounds.solo(1);
    Bounds.due("nothing by nobody", x.learn(0, 0), 0);
    Bounds.due("the first song", x.learn(0, 1), 1);
    Bounds.due("the last song", x.learn(0, 32768), 2);
    Bounds.due("these", x.ofPlayer(0, 1), 32769);
    Bounds.due("all", x.learn(0, ALL), 16);
    Bounds.due("all again", x.learn(0, ALL), 16);
    Bounds.due("nothing more", x.learn(0, 0), 16);
    Bounds.due("all known", x.ofPlayer(0, 1), ALL);
  }

  static void promise03WhatIsKnownStaysAndCountsOnce() {
    FirstdanceAgency x = new FirstdanceAgency();
    x.player(1, 5, 0, 1);
    Bounds.due("one of two is new", x.learn(0, 6), 3);
    Bounds.due("all three", x.ofPlayer(0, 1), 7);
  }

  static void promise03TheFirstNamedIsThrown() {
    FirstdanceAgency x = Bounds.four();
    Bounds.refused(x, "player and songs", Bounds.INDEX, () -> x.learn(4, 65536));
    Bounds.refused(x, "player and songs", Bounds.INDEX, () -> x.learn(-1, -1));
  }

  static void promise03WhatIsLearntCountsFromThenOn() {
    FirstdanceAgency x = Bounds.solo(1);
    x.ask(0, 5, 0, 10, 1, 512);
    Bounds.due("nobody knows it", x.filling(0, 3), 4);
    Bounds.due("learnt", x.learn(0, 512), 1);
    Bounds.due("one knows it", x.ofSong(9, 5), 1);
    Bounds.due("a filling", x.filling(0, 0), 1);
    Bounds.due("playable", x.set(1, false), 1);
  }

  // ---- 4: song

  static void promise04SongIs0To15() {
    Bounds.range(Bounds::empty, Bounds.INDEX, 0, 15, (x, v) -> x.song(v, 0, 0, 2));
  }

  static void promise04KeyIs0To11() {
    Bounds.range(Bounds::empty, Bounds.ARGUMENT, 0, 11, (x, v) -> {
      x.song(7, v, 5, 3);
      Bounds.due("key", x.ofSong(7, 0), v);
    });
  }

  static void promise04EnergyIs0To9() {
    Bounds.range(Bounds::empty, Bounds.ARGUMENT, 0, 9, (x, v) -> {
      x.song(7, 7, v, 3);
      Bounds.due("energy", x.ofSong(7, 1), v);
    });
  }

  static void promise04MinutesAre2To9() {
    Bounds.range(Bounds::empty, Bounds.ARGUMENT, 2, 9, (x, v) -> {
      x.song(7, 7, 5, v);
      Bounds.due("minutes", x.ofSong(7, 2), v);
    });
  }

  static void promise04ReturnsMinutesBefore() {
    FirstdanceAgency x = new FirstdanceAgency();
    Bounds.due("at first", x.song(3, 3, 5, 9), 3);
    Bounds.due("told once", x.song(3, 3, 5, 9), 9);
    Bounds.due("the same told again", x.song(3, 3, 5, 2), 9);
    Bounds.refused(x, "minutes 1", Bounds.ARGUMENT, () -> x.song(3, 3, 5, 1));
    Bounds.due("what was refused was not told", x.song(3, 3, 5, 4), 2);
  }

  static void promise04OtherSongsStay() {
    FirstdanceAgency x = new FirstdanceAgency();
    x.song(15, 0, 0, 2);
    x.song(0, 11, 9, 9);
    int[] first = {11, 9, 9};
    int[] last = {0, 0, 2};
    for (int what = 0; what <= 2; what++) {
      Bounds.due("of 0 " + what, x.ofSong(0, what), first[what]);
      Bounds.due("of 15 " + what, x.ofSong(15, what), last[what]);
      Bounds.due("of 12 " + what, x.ofSong(12, what), new int[] {0, 5, 3}[what]);
    }
  }

  static void promise04WhatIsRefusedChangesNothing() {
    FirstdanceAgency x = new FirstdanceAgency();
    Bounds.refused(x, "key alone is wrong", Bounds.ARGUMENT, () -> x.song(3, 12, 9, 9));
    Bounds.refused(x, "energy alone is wrong", Bounds.ARGUMENT, () -> x.song(3, 11, 10, 9));
    Bounds.refused(x, "minutes alone are wrong", Bounds.ARGUMENT, () -> x.song(3, 11, 9, 10));
    for (int what = 0; what <= 2; what++) {
      Bounds.due("as at first " + what, x.ofSong(3, what), new int[] {3, 5, 3}[what]);
    }
  }

  static void promise04TheFirstNamedIsThrown() {
    FirstdanceAgency x = new FirstdanceAgency();
    Bounds.refused(x, "song and key", Bounds.INDEX, () -> x.song(16, 12, 0, 2));
    Bounds.refused(x, "song and energy", Bounds.INDEX, () -> x.song(-1, 0, 10, 2));
    Bounds.refused(x, "song and minutes", Bounds.INDEX, () -> x.song(16, 0, 0, 10));
  }

  // ---- 5: feud

  static void promise05PlayersThatAreThereBoth() {
    Bounds.numbers(Bounds::empty, Bounds::four, 4, (x, v) -> x.feud(v, v == 1 ? 2 : 1, true));
    Bounds.numbers(Bounds::empty, Bounds::four, 4, (x, v) -> x.feud(v == 1 ? 2 : 1, v, true));
    FirstdanceAgency x = Bounds.solo(1);
    Bounds.refused(x, "with one who is not there yet", Bounds.INDEX, () -> x.feud(0, 1, true));
    x.player(1, 0, 0, 1);
    Bounds.due("now it is there", x.feud(0, 1, true), false);
  }

  static void promise05TwoDifferentOnes() {
    FirstdanceAgency x = Bounds.four();
    for (int p = 0; p < 4; p++) {
      int one = p;
      Bounds.refused(x, "with oneself", Bounds.ARGUMENT, () -> x.feud(one, one, true));
      Bounds.refused(x, "none with oneself", Bounds.ARGUMENT, () -> x.feud(one, one, false));
    }
    Bounds.due("no feud", x.desk(9), 0);
    Bounds.due("neighbours", x.feud(0, 1, true), false);
  }

  static void promise05TheFirstNamedIsThrown() {
    FirstdanceAgency x = Bounds.four();
    Bounds.refused(x, "both the same, and not there", Bounds.INDEX, () -> x.feud(4, 4, true));
    Bounds.refused(x, "both the same, and below 0", Bounds.INDEX, () -> x.feud(-1, -1, false));
  }

  static void promise05ReturnsWhetherTheyHadEitherWayRound() {
    FirstdanceAgency x = Bounds.four();
    Bounds.due("none told, none there", x.feud(0, 3, false), false);
    Bounds.due("told", x.feud(0, 3, true), false);
    Bounds.due("told again", x.feud(0, 3, true), true);
    Bounds.due("the other way round", x.feud(3, 0, true), true);
    Bounds.due("one feud", x.desk(9), 1);
    Bounds.due("of 0", x.ofPlayer(0, 4), 8);
    Bounds.due("of 3", x.ofPlayer(3, 4), 1);
    Bounds.due("over", x.feud(3, 0, false), true);
    Bounds.due("over already", x.feud(0, 3, false), false);
    Bounds.due("of 0 then", x.ofPlayer(0, 4), 0);
    Bounds.due("of 3 then", x.ofPlayer(3, 4), 0);
  }

  static void promise05OthersStay() {
    FirstdanceAgency x = Bounds.four();
    x.feud(0, 1, true);
    x.feud(1, 2, true);
    x.feud(0, 1, false);
    Bounds.due("of 1", x.ofPlayer(1, 4), 4);
    Bounds.due("of 2", x.ofPlayer(2, 4), 2);
    Bounds.due("all", x.desk(9), 1);
  }

  static void promise05AllHaveFeuds() {
    FirstdanceAgency x = new FirstdanceAgency();
    for (int p = 0; p < 10; p++) {
      x.player(1, 0, 0, 1);
    }
    for (int p = 0; p < 10; p++) {
      for (int q = 0; q < p; q++) {
        x.feud(p, q, true);
      }
    }
    Bounds.due("45", x.desk(9), 45);
    Bounds.due("of 0", x.ofPlayer(0, 4), 1022);
    Bounds.due("of 9", x.ofPlayer(9, 4), 511);
  }

  static void promise05DoesNotMatterForWhatIsFixed() {
    FirstdanceAgency x = Bounds.fixed();
    x.feud(0, 2, true);
    Bounds.due("its players", x.ofWedding(0, 7), 5);
    Bounds.due("its state", x.ofWedding(0, 6), Bounds.FIXED);
    Bounds.due("a filling by now", x.filling(0, 0), 6);
    Bounds.passTo(x, 41);
    Bounds.due("played by both", x.tell(0), "0 on day 40 in 0, played: 0,2");
  }

  // ---- 6: road

  static void promise06TownsAre0To5Both() {
    Bounds.range(Bounds::empty, Bounds.INDEX, 0, 5, (x, v) -> x.road(v, 2, 1));
    Bounds.range(Bounds::empty, Bounds.INDEX, 0, 5, (x, v) -> x.road(2, v, 1));
  }

  static void promise06TwoDifferentOnes() {
    FirstdanceAgency x = new FirstdanceAgency();
    for (int town = 0; town < 6; town++) {
      int one = town;
      Bounds.refused(x, "to itself", Bounds.ARGUMENT, () -> x.road(one, one, 1));
      Bounds.refused(x, "none to itself", Bounds.ARGUMENT, () -> x.road(one, one, 0));
    }
    Bounds.due("neighbours", x.road(4, 5, 1), 1);
  }

  static void promise06HoursAre0To9() {
    Bounds.range(Bounds::empty, Bounds.ARGUMENT, 0, 9, (x, v) -> {
      int drive = x.road(0, 5, v);
      Bounds.due("drive", drive, v == 0 ? Bounds.NONE : v);
    });
    Bounds.due("one hour", new FirstdanceAgency().road(0, 5, 1), 1);
  }

  static void promise06TheFirstNamedIsThrown() {
    FirstdanceAgency x = new FirstdanceAgency();
    Bounds.refused(x, "town and hours", Bounds.INDEX, () -> x.road(0, 6, 10));
    Bounds.refused(x, "town and hours", Bounds.INDEX, () -> x.road(-1, 0, -1));
    Bounds.refused(x, "both the same, and no town", Bounds.INDEX, () -> x.road(6, 6, 1));
    Bounds.refused(x, "both the same, and below 0", Bounds.INDEX, () -> x.road(-1, -1, 10));
  }

  static void promise06ReturnsDriveNotTheRoad() {
    FirstdanceAgency x = new FirstdanceAgency();
    x.road(0, 1, 2);
    x.road(1, 2, 2);
    Bounds.due("one hour more than the way", x.road(0, 2, 5), 4);
    Bounds.due("just as long", x.road(0, 2, 4), 4);
    Bounds.due("one hour less", x.road(0, 2, 3), 3);
    Bounds.due("none, but a way", x.road(0, 2, 0), 4);
    Bounds.due("none, and no way", x.road(2, 1, 0), Bounds.NONE);
    Bounds.due("the way over it is gone", x.drive(0, 2), Bounds.NONE);
    Bounds.due("the other road stays", x.drive(1, 0), 2);
  }

  static void promise06ARoadToldAgainIsReplaced() {
    FirstdanceAgency x = new FirstdanceAgency();
    Bounds.due("long", x.road(3, 4, 9), 9);
    Bounds.due("shorter", x.road(4, 3, 1), 1);
    Bounds.due("longer again", x.road(3, 4, 8), 8);
    Bounds.due("both ways", x.drive(4, 3), 8);
    Bounds.due("none", x.road(4, 3, 0), Bounds.NONE);
    Bounds.due("none, again", x.road(4, 3, 0), Bounds.NONE);
  }

  static void promise06WhatIsRefusedLeavesTheRoad() {
    FirstdanceAgency x = new FirstdanceAgency();
    x.road(0, 1, 3);
    Bounds.refused(x, "hours 10", Bounds.ARGUMENT, () -> x.road(0, 1, 10));
    Bounds.refused(x, "hours -1", Bounds.ARGUMENT, () -> x.road(0, 1, -1));
    Bounds.due("as before", x.drive(0, 1), 3);
  }

  static void promise06DoesNotMatterForWhatIsFixed() {
    FirstdanceAgency x = Bounds.solo(1);
    x.road(0, 1, 1);
    x.ask(0, 5, 1, 10, 1, 0);
    x.ask(1, 5, 0, 12, 1, 0);
    x.fix(0);
    x.fix(1);
    x.road(0, 1, 0);
    Bounds.due("both are fixed still", x.desk(5), 2);
    Bounds.due("though it would not be free", x.free(0, 0), false);
    Bounds.due("nor for the other", x.free(0, 1), false);
    x.pass(6);
    Bounds.due("both are played", x.ofPlayer(0, 7), 2);
  }

  // ---- 7: band

  /** Each number is told to a new agency: what the digits to the base 3 are together decides. */
  static void promise07ShapeIs1To728And5AreNeededAtMost() {
    for (int shape = -3; shape <= 732; shape++) {
      String digits = shape < 0 ? "" : Integer.toString(shape, 3);
      int needed = 0;
      for (int k = 0; k < digits.length(); k++) {
        needed += digits.charAt(k) - '0';
      }
      FirstdanceAgency x = new FirstdanceAgency();
      int told = shape;
      if (shape >= 1 && shape <= 728 && needed <= 5) {
        Bounds.due("shape " + shape, x.band(shape), 0);
        Bounds.due("in all of " + shape, x.ofBand(0, 6), needed);
      } else {
        Bounds.refused(x, "shape " + shape, Bounds.ARGUMENT, () -> x.band(told));
      }
    }
    FirstdanceAgency x = new FirstdanceAgency();
    Bounds.refused(x, "the least", Bounds.ARGUMENT, () -> x.band(MIN));
    Bounds.refused(x, "the greatest", Bounds.ARGUMENT, () -> x.band(MAX));
  }

  static void promise07TheLastDigitIsForTheInstrument0() {
    for (int k = 0, one = 1; k < 6; k++, one *= 3) {
      for (int needed = 1; needed <= 2; needed++) {
        FirstdanceAgency x = new FirstdanceAgency();
        x.band(needed * one);
        for (int instrument = 0; instrument < 6; instrument++) {
          Bounds.due("of " + instrument, x.ofBand(0, instrument), instrument == k ? needed : 0);
        }
      }
    }
  }

  static void promise07FiveNeededAndSixNeeded() {
    FirstdanceAgency x = new FirstdanceAgency();
    Bounds.due("2, 2 and 1", x.band(675), 0);
    Bounds.due("one of each but one", x.band(121), 1);
    Bounds.refused(x, "one of each", Bounds.ARGUMENT, () -> x.band(364));
    Bounds.refused(x, "2, 2 and 2", Bounds.ARGUMENT, () -> x.band(702));
    Bounds.refused(x, "two of each", Bounds.ARGUMENT, () -> x.band(728));
  }

  static void promise07NumbersFrom0AndSixAtMost() {
    FirstdanceAgency x = new FirstdanceAgency();
    for (int k = 0; k < 6; k++) {
      Bounds.due("its number", x.band(k + 1), k);
      Bounds.due("how many", x.desk(2), k + 1);
    }
    Bounds.refused(x, "a seventh", Bounds.STATE, () -> x.band(1));
    Bounds.due("six still", x.desk(2), 6);
    Bounds.due("the last one is as told", x.ofBand(5, 1), 2);
  }

  static void promise07TheFirstNamedIsThrown() {
    FirstdanceAgency x = new FirstdanceAgency();
    for (int k = 0; k < 6; k++) {
      x.band(1);
    }
    Bounds.refused(x, "shape 0, and there are 6", Bounds.ARGUMENT, () -> x.band(0));
    Bounds.refused(x, "shape 729, and there are 6", Bounds.ARGUMENT, () -> x.band(729));
    Bounds.refused(x, "six needed, and there are 6", Bounds.ARGUMENT, () -> x.band(364));
  }
}
