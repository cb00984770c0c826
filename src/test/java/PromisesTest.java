/** At least one test for each promise of the document: ordinary inputs, edges, wrong inputs. */
public final class PromisesTest {
  private static final Class<?> INDEX = IndexOutOfBoundsException.class;
  private static final Class<?> ARGUMENT = IllegalArgumentException.class;
  private static final Class<?> STATE = IllegalStateException.class;
  private static final int ALL = 65535;
  private static final int MIN = Integer.MIN_VALUE;
  private static final int MAX = Integer.MAX_VALUE;

  private static void due(String call, Object got, Object want) {
    Checks.due(call, got, want);
  }

  private static void refused(FirstdanceAgency x, String name, Class<?> want, Checks.Call call) {
    Checks.refused(x, name, want, call);
  }

  public static void main(String[] args) {
    promise1();
    promise2();
    promise3();
    promise4();
    promise5();
    promise6();
    promise7();
    promise8();
    promise9();
    promise10();
    promise11();
    promise11Again();
    promise12();
    promise13();
    promise13Roads();
    promise13Extra();
    promise14();
    promise15();
    promise16();
    promise17();
    promise18();
    promise19();
    promise20();
    promise20Ties();
    promise21();
    promise22();
    promise23();
    promise24();
    promise25();
    promise26();
    promise27();
    promise28();
    promise29();
    promise30();
    Checks.end("PromisesTest");
  }

  /** Two who play 0 and two who play 1, all of the town 0, all songs; a band of one each. */
  private static FirstdanceAgency four() {
    FirstdanceAgency x = new FirstdanceAgency();
    x.player(1, ALL, 0, 10);
    x.player(1, ALL, 0, 20);
    x.player(2, ALL, 0, 30);
    x.player(2, ALL, 0, 40);
    x.band(4);
    return x;
  }

  private static void promise1() {
    FirstdanceAgency x = new FirstdanceAgency();
    for (int what = 0; what <= 12; what++) {
      due("new: desk " + what, x.desk(what), 0);
    }
    due("new: isSound", x.isSound(), true);
    for (int s = 0; s < 16; s++) {
      due("new: key of " + s, x.ofSong(s, 0), s % 12);
      due("new: energy of " + s, x.ofSong(s, 1), 5);
      due("new: minutes of " + s, x.ofSong(s, 2), 3);
      due("new: played of " + s, x.ofSong(s, 3), 0);
    }
    for (int a = 0; a < 6; a++) {
      for (int b = 0; b < 6; b++) {
        due("new: drive", x.drive(a, b), a == b ? 0 : -1);
      }
    }
    refused(x, "new: no player", INDEX, () -> x.ofPlayer(0, 0));
    refused(x, "new: no band", INDEX, () -> x.ofBand(0, 0));
    refused(x, "new: no wedding", INDEX, () -> x.ofWedding(0, 0));
  }

  private static void promise2() {
    FirstdanceAgency x = new FirstdanceAgency();
    due("player", x.player(63, ALL, 5, 99), 0);
    due("player", x.player(1, 0, 0, 1), 1);
    due("instruments", x.ofPlayer(0, 0), 63);
    due("known", x.ofPlayer(0, 1), ALL);
    due("home", x.ofPlayer(0, 2), 5);
    due("fee", x.ofPlayer(0, 3), 99);
    for (int what = 4; what <= 8; what++) {
      due("of a new player " + what, x.ofPlayer(0, what), 0);
    }
    refused(x, "home -1", INDEX, () -> x.player(1, 0, -1, 1));
    refused(x, "home 6 ahead of the rest", INDEX, () -> x.player(0, -1, 6, 0));
    refused(x, "home MAX", INDEX, () -> x.player(1, 0, MAX, 1));
    refused(x, "instruments 0", ARGUMENT, () -> x.player(0, 0, 0, 1));
    refused(x, "instruments 64", ARGUMENT, () -> x.player(64, 0, 0, 1));
    refused(x, "instruments -1", ARGUMENT, () -> x.player(-1, 0, 0, 1));
    refused(x, "songs -1", ARGUMENT, () -> x.player(1, -1, 0, 1));
    refused(x, "songs 65536", ARGUMENT, () -> x.player(1, 65536, 0, 1));
    refused(x, "fee 0", ARGUMENT, () -> x.player(1, 0, 0, 0));
    refused(x, "fee 100", ARGUMENT, () -> x.player(1, 0, 0, 100));
    for (int k = 2; k < 10; k++) {
      due("player " + k, x.player(1, 1, 1, k), k);
    }
    refused(x, "an eleventh", STATE, () -> x.player(1, 0, 0, 1));
    refused(x, "an eleventh, wrong fee", ARGUMENT, () -> x.player(1, 0, 0, 0));
    refused(x, "an eleventh, wrong home", INDEX, () -> x.player(1, 0, 6, 1));
    due("ten", x.desk(1), 10);
  }

  private static void promise3() {
    FirstdanceAgency x = new FirstdanceAgency();
    x.player(1, 5, 0, 1);
    due("learn more", x.learn(0, 6), 3);
    due("known then", x.ofPlayer(0, 1), 7);
    due("learn nothing", x.learn(0, 0), 3);
    due("learn all", x.learn(0, ALL), 16);
    refused(x, "learn of -1", INDEX, () -> x.learn(-1, 0));
    refused(x, "learn of 1, wrong songs", INDEX, () -> x.learn(1, -1));
    refused(x, "learn -1", ARGUMENT, () -> x.learn(0, -1));
    refused(x, "learn 65536", ARGUMENT, () -> x.learn(0, 65536));
  }

  private static void promise4() {
    FirstdanceAgency x = new FirstdanceAgency();
    due("song", x.song(15, 11, 9, 9), 3);
    due("song again", x.song(15, 0, 0, 2), 9);
    due("key", x.ofSong(15, 0), 0);
    due("energy", x.ofSong(15, 1), 0);
    due("minutes", x.ofSong(15, 2), 2);
    due("another stays", x.ofSong(14, 2), 3);
    refused(x, "song -1", INDEX, () -> x.song(-1, 0, 0, 2));
    refused(x, "song 16, wrong key", INDEX, () -> x.song(16, -1, 0, 2));
    refused(x, "key -1", ARGUMENT, () -> x.song(0, -1, 0, 2));
    refused(x, "key 12", ARGUMENT, () -> x.song(0, 12, 0, 2));
    refused(x, "energy -1", ARGUMENT, () -> x.song(0, 0, -1, 2));
    refused(x, "energy 10", ARGUMENT, () -> x.song(0, 0, 10, 2));
    refused(x, "minutes 1", ARGUMENT, () -> x.song(0, 0, 0, 1));
    refused(x, "minutes 10", ARGUMENT, () -> x.song(0, 0, 0, 10));
  }

  private static void promise5() {
    FirstdanceAgency x = four();
    due("feud", x.feud(0, 2, true), false);
    due("feud again, the other way", x.feud(2, 0, true), true);
    due("of 0", x.ofPlayer(0, 4), 4);
    due("of 2", x.ofPlayer(2, 4), 1);
    due("feuds", x.desk(9), 1);
    x.ask(0, 5, 0, 10, 1, 0);
    due("filling without both", x.filling(0, 0), 6);
    due("feud over", x.feud(2, 0, false), true);
    due("feud was over", x.feud(0, 2, false), false);
    due("filling with both", x.filling(0, 0), 5);
    x.fix(0);
    x.feud(0, 2, true);
    due("what is fixed stays", x.ofWedding(0, 7), 5);
    refused(x, "feud of -1", INDEX, () -> x.feud(-1, 0, true));
    refused(x, "feud with 4", INDEX, () -> x.feud(0, 4, true));
    refused(x, "feud of 4 with 4", INDEX, () -> x.feud(4, 4, true));
    refused(x, "feud with oneself", ARGUMENT, () -> x.feud(3, 3, true));
  }

  private static void promise6() {
    FirstdanceAgency x = new FirstdanceAgency();
    due("road", x.road(0, 1, 9), 9);
    due("road", x.road(1, 2, 9), 9);
    due("both ways", x.drive(2, 0), 18);
    due("a longer road", x.road(2, 0, 9), 9);
    due("a shorter way over two", x.road(0, 1, 1), 1);
    x.road(1, 2, 2);
    due("over 1", x.drive(0, 2), 3);
    due("no road, but a way", x.road(0, 2, 0), 3);
    due("no road, no way", x.road(2, 1, 0), -1);
    due("told the other way round", x.drive(1, 2), -1);
    refused(x, "road of -1", INDEX, () -> x.road(-1, 0, 1));
    refused(x, "road to 6, wrong hours", INDEX, () -> x.road(0, 6, 10));
    refused(x, "road of 6 to 6", INDEX, () -> x.road(6, 6, 1));
    refused(x, "road to oneself", ARGUMENT, () -> x.road(1, 1, 1));
    refused(x, "hours -1", ARGUMENT, () -> x.road(0, 1, -1));
    refused(x, "hours 10", ARGUMENT, () -> x.road(0, 1, 10));
  }

  private static void promise7() {
    FirstdanceAgency x = new FirstdanceAgency();
    due("band", x.band(1), 0);
    due("band", x.band(2 * 243 + 2 * 81 + 1), 1);
    due("needs 5", x.ofBand(1, 5), 2);
    due("needs 4", x.ofBand(1, 4), 2);
    due("needs 3", x.ofBand(1, 3), 0);
    due("needs 0", x.ofBand(1, 0), 1);
    due("in all", x.ofBand(1, 6), 5);
    refused(x, "shape 0", ARGUMENT, () -> x.band(0));
    refused(x, "shape -1", ARGUMENT, () -> x.band(-1));
    refused(x, "shape MIN", ARGUMENT, () -> x.band(MIN));
    refused(x, "shape 729", ARGUMENT, () -> x.band(729));
    refused(x, "six needed", ARGUMENT, () -> x.band(364));
    refused(x, "twelve needed", ARGUMENT, () -> x.band(728));
    for (int k = 2; k < 6; k++) {
      due("band " + k, x.band(k), k);
    }
    refused(x, "a seventh", STATE, () -> x.band(1));
    refused(x, "a seventh, six needed", ARGUMENT, () -> x.band(364));
  }

  private static void promise8() {
    FirstdanceAgency x = four();
    x.pass(3);
    due("ask", x.ask(0, 3, 5, 10, 6, ALL), 0);
    due("ask", x.ask(0, 365, 0, 22, 2, 0), 1);
    due("ask", x.ask(0, 365, 0, 18, 6, 0), 2);
    refused(x, "band -1", INDEX, () -> x.ask(-1, 5, 0, 10, 1, 0));
    refused(x, "band 1, wrong day", INDEX, () -> x.ask(1, 2, 0, 10, 1, 0));
    refused(x, "town -1", INDEX, () -> x.ask(0, 5, -1, 10, 1, 0));
    refused(x, "town 6, wrong length", INDEX, () -> x.ask(0, 5, 6, 10, 0, 0));
    refused(x, "a past day", ARGUMENT, () -> x.ask(0, 2, 0, 10, 1, 0));
    refused(x, "day 366", ARGUMENT, () -> x.ask(0, 366, 0, 10, 1, 0));
    refused(x, "start 9", ARGUMENT, () -> x.ask(0, 5, 0, 9, 1, 0));
    refused(x, "start 23", ARGUMENT, () -> x.ask(0, 5, 0, 23, 1, 0));
    refused(x, "length 0", ARGUMENT, () -> x.ask(0, 5, 0, 10, 0, 0));
    refused(x, "length 7", ARGUMENT, () -> x.ask(0, 5, 0, 10, 7, 0));
    refused(x, "length MAX", ARGUMENT, () -> x.ask(0, 5, 0, 22, MAX, 0));
    refused(x, "behind midnight", ARGUMENT, () -> x.ask(0, 5, 0, 19, 6, 0));
    refused(x, "songs -1", ARGUMENT, () -> x.ask(0, 5, 0, 10, 1, -1));
    refused(x, "songs 65536", ARGUMENT, () -> x.ask(0, 5, 0, 10, 1, 65536));
    due("fix the day", x.fix(1) > 0, true);
    x.band(1);
    due("another band may play that day", x.ask(1, 365, 0, 10, 1, 0), 3);
    refused(x, "band and day are fixed", STATE, () -> x.ask(0, 365, 0, 10, 1, 0));
    refused(x, "band and day are fixed, wrong start", ARGUMENT, () -> x.ask(0, 365, 0, 9, 1, 0));
    x.cancel(1);
    due("ask for the day again", x.ask(0, 365, 0, 10, 1, 0), 4);
    for (int k = 5; k < 14; k++) {
      due("ask " + k, x.ask(0, 100 + k, 0, 10, 1, 0), k);
    }
    refused(x, "a fifteenth", STATE, () -> x.ask(0, 5, 0, 10, 1, 0));
    refused(x, "a fifteenth, wrong day", ARGUMENT, () -> x.ask(0, 2, 0, 10, 1, 0));
  }

  private static void promise9() {
    FirstdanceAgency x = four();
    x.ask(0, 10, 0, 10, 3, 0);
    x.ask(0, 10, 0, 12, 1, 0);
    x.ask(0, 10, 0, 14, 1, 0);
    x.ask(0, 11, 0, 10, 1, 0);
    refused(x, "fix -1", INDEX, () -> x.fix(-1));
    refused(x, "fix 4", INDEX, () -> x.fix(4));
    refused(x, "the second of its queue", STATE, () -> x.fix(1));
    due("fix", x.fix(0), 120 * 6 / 5 + 50);
    due("fixed with the cheapest", x.ofWedding(0, 7), 5);
    due("a fifth is paid", x.ofWedding(0, 10), 194 / 5);
    due("into cash", x.desk(8), 194 / 5);
    due("the others are lost", x.ofWedding(1, 6) * 10 + x.ofWedding(2, 6), 33);
    due("another day is not", x.ofWedding(3, 6), 0);
    refused(x, "a fixed one", STATE, () -> x.fix(0));
    refused(x, "a lost one", STATE, () -> x.fix(1));
    for (int p = 0; p < 2; p++) {
      x.ill(p, 11);
    }
    refused(x, "without a filling", STATE, () -> x.fix(3));
    due("the price is rounded down", priceOfOne(), 7 * 6 / 5 + 50);
  }

  private static int priceOfOne() {
    FirstdanceAgency x = new FirstdanceAgency();
    x.player(1, 0, 0, 7);
    x.band(1);
    x.ask(0, 0, 0, 10, 1, 0);
    return x.fix(0);
  }

  private static void promise10() {
    int[] days = {30, 29, 14, 13, 7, 6, 0};
    int[] hundredths = {20, 40, 40, 70, 70, 100, 100};
    for (int k = 0; k < days.length; k++) {
      FirstdanceAgency x = four();
      x.pass(2);
      x.ask(0, 2 + days[k], 0, 10, 3, 0);
      int price = x.fix(0);
      int owed = price * hundredths[k] / 100;
      due("owed " + days[k] + " days ahead", x.cancel(0), owed);
      due("paid " + days[k] + " days ahead", x.ofWedding(0, 10), Math.max(owed, price / 5));
      due("cash " + days[k] + " days ahead", x.desk(8), Math.max(owed, price / 5));
      due("lost", x.ofWedding(0, 6), 3);
      due("its players stay", x.ofWedding(0, 7), 5);
      due("its price stays", x.ofWedding(0, 8), price);
    }
    FirstdanceAgency x = four();
    x.ask(0, 9, 0, 10, 1, 0);
    x.ask(0, 9, 0, 10, 1, 0);
    due("cancel an asked one", x.cancel(0), 0);
    due("without money", x.desk(8), 0);
    due("the next one is first", x.ofWedding(1, 11), 0);
    x.ask(0, 0, 0, 10, 1, 0);
    x.fix(2);
    x.pass(1);
    refused(x, "cancel -1", INDEX, () -> x.cancel(-1));
    refused(x, "cancel 3", INDEX, () -> x.cancel(3));
    refused(x, "cancel a lost one", STATE, () -> x.cancel(0));
    refused(x, "cancel a played one", STATE, () -> x.cancel(2));
  }

  private static void promise11() {
    FirstdanceAgency x = four();
    x.ask(0, 5, 0, 10, 1, 0);
    int price = x.fix(0);
    due("0 is ill", x.ill(0, 5), 0);
    due("filled anew, the other one stays", x.ofWedding(0, 7), 6);
    due("price stays", x.ofWedding(0, 8), price);
    due("0 is off", x.free(0, 0), false);
    due("one day off", x.desk(11), 1);
    due("ill again", x.ill(0, 5), 0);
    due("still one day off", x.desk(11), 1);
    due("another is ill", x.ill(3, 5), 0);
    due("1 is ill", x.ill(1, 5), 1);
    due("lost", x.ofWedding(0, 6), 3);
    due("its last players", x.ofWedding(0, 7), 6);
    due("paid back and a tenth more", x.ofWedding(0, 10), -(price / 10));
    due("cash", x.desk(8), -(price / 10));
    due("lost ones are not hit again", x.ill(2, 5), 0);
    due("cash stays", x.desk(8), -(price / 10));
    x.pass(2);
    due("today", x.ill(0, 2), 0);
    due("the last day", x.ill(0, 365), 0);
    refused(x, "ill -1", INDEX, () -> x.ill(-1, 5));
    refused(x, "ill 4, wrong day", INDEX, () -> x.ill(4, -1));
    refused(x, "ill yesterday", ARGUMENT, () -> x.ill(0, 1));
    refused(x, "ill on 366", ARGUMENT, () -> x.ill(0, 366));
    refused(x, "ill on MIN", ARGUMENT, () -> x.ill(0, MIN));
  }

  /** Whoever was there stays, even if others would cost less; and by rising numbers. */
  private static void promise11Again() {
    FirstdanceAgency x = new FirstdanceAgency();
    x.player(3, 0, 0, 10);
    x.player(2, 0, 0, 50);
    x.band(4);
    x.ask(0, 5, 0, 10, 1, 0);
    x.fix(0);
    x.player(3, 0, 0, 1);
    x.player(3, 0, 0, 1);
    x.ill(0, 5);
    due("the one that was there stays", x.ofWedding(0, 7), 2 + 4);

    FirstdanceAgency y = new FirstdanceAgency();
    y.player(1, 0, 0, 1);
    y.band(1);
    y.band(1);
    y.ask(0, 5, 0, 10, 2, 0);
    y.ask(1, 5, 0, 12, 2, 0);
    y.fix(1);
    y.fix(0);
    y.player(1, 0, 0, 5);
    due("both go to 1", y.ill(0, 5), 0);
    due("both", y.ofWedding(0, 7) * 10 + y.ofWedding(1, 7), 22);

    FirstdanceAgency z = new FirstdanceAgency();
    z.player(1, 0, 0, 1);
    z.band(1);
    z.band(1);
    z.ask(0, 5, 0, 14, 2, 0);
    z.ask(1, 5, 1, 10, 2, 0);
    z.road(0, 1, 2);
    z.fix(0);
    z.fix(1);
    z.player(1, 0, 0, 5);
    z.road(0, 1, 3);
    due("one goes to 1, the other is lost", z.ill(0, 5), 1);
    due("the smaller number is filled", z.ofWedding(0, 6) * 10 + z.ofWedding(1, 6), 13);
  }

  private static void promise12() {
    FirstdanceAgency x = four();
    x.ask(0, 5, 0, 17, 6, 0);
    x.ask(0, 6, 0, 10, 1, 0);
    x.fix(0);
    due("late 0", x.late(0, 0), 0);
    due("late 1", x.late(0, 1), 1);
    due("late 15", x.late(0, 15), 1);
    due("late 16", x.late(0, 16), 2);
    due("late 60", x.late(0, 60), 4);
    due("behind midnight", x.late(0, 61), 4);
    due("late 240", x.late(0, 240), 4);
    due("LATE is what was told", x.ofWedding(0, 9), 240);
    x.fix(1);
    due("all of 240 count", x.late(1, 240), 16);
    refused(x, "late of -1", INDEX, () -> x.late(-1, 0));
    refused(x, "late of 2, wrong minutes", INDEX, () -> x.late(2, -1));
    refused(x, "minutes -1", ARGUMENT, () -> x.late(0, -1));
    refused(x, "minutes 241", ARGUMENT, () -> x.late(0, 241));
    x.ask(0, 7, 0, 10, 1, 0);
    refused(x, "an asked one", STATE, () -> x.late(2, 0));
    refused(x, "an asked one, wrong minutes", ARGUMENT, () -> x.late(2, 241));
    x.cancel(0);
    refused(x, "a lost one", STATE, () -> x.late(0, 1));
    x.pass(7);
    refused(x, "a played one", STATE, () -> x.late(1, 1));
  }

  private static void promise13() {
    FirstdanceAgency x = new FirstdanceAgency();
    x.player(1, 3, 0, 7);
    x.player(2, 3, 1, 9);
    x.road(0, 1, 2);
    x.band(4);
    x.ask(0, 3, 0, 20, 3, 0);
    x.ask(0, 9, 0, 10, 1, 0);
    int price = x.fix(0);
    due("price", price, 68 * 6 / 5 + 50);
    due("quarters", x.late(0, 50), 4);
    due("pass to its day", x.pass(3), 3);
    due("still fixed", x.ofWedding(0, 6), 1);
    due("pass over it", x.pass(1), 4);
    due("played", x.ofWedding(0, 6), 2);
    due("earned by 0", x.ofPlayer(0, 5), 21 + 4 * 7 / 4);
    due("earned by 1", x.ofPlayer(1, 5), 27 + 20 + 4 * 9 / 4);
    due("paid", x.ofWedding(0, 10), price + 4 * 16 / 4);
    due("cash", x.desk(8), price + 16 - 28 - 56);
    due("its songs are played", x.ofSong(0, 3) * 10 + x.ofSong(1, 3), 11);
    due("others are not", x.ofSong(2, 3), 0);
    due("waits still", x.ofWedding(1, 6), 0);
    x.pass(1);
    due("waited five days", x.ofWedding(1, 6), 3);
    x.ask(0, 5, 0, 10, 1, 0);
    x.ask(0, 6, 0, 10, 1, 0);
    x.pass(1);
    due("its day is over", x.ofWedding(2, 6), 3);
    due("the next day is not", x.ofWedding(3, 6), 0);
    refused(x, "pass 0", ARGUMENT, () -> x.pass(0));
    refused(x, "pass -1", ARGUMENT, () -> x.pass(-1));
    refused(x, "pass 61", ARGUMENT, () -> x.pass(61));
    for (int k = 0; k < 5; k++) {
      x.pass(60);
    }
    x.pass(58);
    due("day 364", x.desk(0), 364);
    refused(x, "above 365", STATE, () -> x.pass(2));
    refused(x, "above 365, and wrong", ARGUMENT, () -> x.pass(61));
    due("the last day", x.pass(1), 365);
    refused(x, "behind it", STATE, () -> x.pass(1));
  }

  /** Rounding of each share of extra, and cost by the roads of that day. */
  private static void promise13Roads() {
    FirstdanceAgency x = new FirstdanceAgency();
    x.player(1, 0, 1, 3);
    x.player(2, 0, 1, 3);
    x.road(0, 1, 5);
    x.band(4);
    x.ask(0, 1, 0, 10, 2, 0);
    int price = x.fix(0);
    due("price with the drive", price, 112 * 6 / 5 + 50);
    x.late(0, 1);
    x.road(0, 1, 0);
    x.pass(2);
    due("extra is of all fees", x.ofWedding(0, 10), price + 6 / 4);
    due("no way counts 0", x.ofPlayer(0, 5), 6 + 3 / 4);
    due("sound", x.isSound(), true);
  }

  private static void promise13Extra() {
    FirstdanceAgency x = new FirstdanceAgency();
    x.player(1, 0, 0, 7);
    x.band(1);
    x.ask(0, 1, 0, 10, 2, 0);
    int price = x.fix(0);
    x.late(0, 90);
    x.pass(2);
    due("quarters times fees, then divided", x.ofWedding(0, 10), price + 6 * 7 / 4);
    due("likewise of what one earns", x.ofPlayer(0, 5), 14 + 6 * 7 / 4);
  }

  private static void promise14() {
    FirstdanceAgency x = four();
    x.feud(0, 3, true);
    x.feud(0, 1, true);
    x.ask(0, 1, 0, 10, 4, 0);
    x.ask(0, 2, 0, 10, 3, 0);
    x.ask(0, 3, 0, 10, 2, 0);
    x.fix(0);
    x.fix(1);
    x.fix(2);
    due("fixed ones", x.ofPlayer(0, 6), 3);
    due("of one who plays none", x.ofPlayer(1, 6), 0);
    x.pass(3);
    due("fixed ones then", x.ofPlayer(0, 6), 1);
    due("played ones", x.ofPlayer(0, 7), 2);
    due("hours", x.ofPlayer(0, 8), 7);
    due("earned", x.ofPlayer(0, 5), 70);
    due("feuds", x.ofPlayer(0, 4), 10);
    due("instruments", x.ofPlayer(2, 0), 2);
    refused(x, "of -1", INDEX, () -> x.ofPlayer(-1, 0));
    refused(x, "of 4, wrong question", INDEX, () -> x.ofPlayer(4, 9));
    refused(x, "what -1", ARGUMENT, () -> x.ofPlayer(0, -1));
    refused(x, "what 9", ARGUMENT, () -> x.ofPlayer(0, 9));
  }

  private static void promise15() {
    FirstdanceAgency x = new FirstdanceAgency();
    x.player(1, 7, 0, 1);
    x.player(1, 5, 0, 1);
    x.band(1);
    x.song(1, 1, 4, 5);
    due("share without any", x.ofSong(0, 4), 0);
    x.ask(0, 0, 0, 10, 1, 0);
    x.fix(0);
    x.pass(1);
    due("played", x.ofSong(0, 3) * 100 + x.ofSong(1, 3) * 10 + x.ofSong(2, 3), 111);
    due("share", x.ofSong(0, 4), 3000 / 11);
    due("share", x.ofSong(1, 4), 5000 / 11);
    x.song(1, 1, 4, 9);
    due("share by minutes of now", x.ofSong(1, 4), 9000 / 15);
    due("known by", x.ofSong(1, 5), 1);
    due("known by", x.ofSong(2, 5), 2);
    due("known by nobody", x.ofSong(3, 5), 0);
    refused(x, "song -1", INDEX, () -> x.ofSong(-1, 0));
    refused(x, "song 16, wrong question", INDEX, () -> x.ofSong(16, 6));
    refused(x, "what -1", ARGUMENT, () -> x.ofSong(0, -1));
    refused(x, "what 6", ARGUMENT, () -> x.ofSong(0, 6));
  }

  private static void promise16() {
    FirstdanceAgency x = four();
    x.band(2 * 3 + 1);
    due("needs", x.ofBand(1, 1) * 10 + x.ofBand(1, 0), 21);
    due("in all", x.ofBand(1, 6), 3);
    x.ask(0, 1, 0, 10, 1, 0);
    x.ask(0, 1, 0, 10, 1, 0);
    x.ask(0, 2, 0, 10, 1, 0);
    x.fix(0);
    x.fix(2);
    x.pass(2);
    due("ever", x.ofBand(0, 7), 3);
    due("played", x.ofBand(0, 8), 1);
    due("of another", x.ofBand(1, 7), 0);
    refused(x, "band -1", INDEX, () -> x.ofBand(-1, 0));
    refused(x, "band 2, wrong question", INDEX, () -> x.ofBand(2, 9));
    refused(x, "what -1", ARGUMENT, () -> x.ofBand(0, -1));
    refused(x, "what 9", ARGUMENT, () -> x.ofBand(0, 9));
  }

  private static void promise17() {
    FirstdanceAgency x = four();
    x.band(1);
    x.ask(0, 40, 0, 10, 1, 3);
    x.ask(1, 40, 2, 22, 2, 5);
    x.ask(0, 40, 0, 11, 1, 0);
    x.ask(0, 40, 0, 12, 1, 0);
    int[] want = {1, 40, 2, 22, 2, 5, 0, 0, 0, 0, 0, 0, 0};
    for (int what = 0; what <= 12; what++) {
      due("asked: " + what, x.ofWedding(1, what), want[what]);
    }
    due("places", x.ofWedding(0, 11) * 100 + x.ofWedding(2, 11) * 10 + x.ofWedding(3, 11), 12);
    x.cancel(2);
    due("place of a lost one", x.ofWedding(2, 11), -1);
    due("the next one moves up", x.ofWedding(3, 11), 1);
    x.fix(0);
    due("place of a fixed one", x.ofWedding(0, 11), -1);
    x.late(0, 20);
    int[] fixed = {0, 40, 0, 10, 1, 3, 1, 5, 98, 20, 19, -1, 2};
    for (int what = 0; what <= 12; what++) {
      due("fixed: " + what, x.ofWedding(0, what), fixed[what]);
    }
    due("players of one never fixed", x.ofWedding(3, 7), 0);
    refused(x, "wedding -1", INDEX, () -> x.ofWedding(-1, 0));
    refused(x, "wedding 4, wrong question", INDEX, () -> x.ofWedding(4, 13));
    refused(x, "what -1", ARGUMENT, () -> x.ofWedding(0, -1));
    refused(x, "what 13", ARGUMENT, () -> x.ofWedding(0, 13));
  }

  private static void promise18() {
    FirstdanceAgency x = new FirstdanceAgency();
    for (int t = 0; t < 5; t++) {
      x.road(t, t + 1, 9);
    }
    due("along all", x.drive(0, 5), 45);
    due("back", x.drive(5, 0), 45);
    due("the same", x.drive(3, 3), 0);
    x.road(5, 2, 1);
    due("round about", x.drive(4, 2), 10);
    x.road(2, 3, 0);
    x.road(5, 2, 0);
    due("no way", x.drive(1, 4), -1);
    refused(x, "drive -1", INDEX, () -> x.drive(-1, 0));
    refused(x, "drive to 6", INDEX, () -> x.drive(0, 6));
    refused(x, "drive to MIN", INDEX, () -> x.drive(0, MIN));
  }

  private static void promise19() {
    FirstdanceAgency x = new FirstdanceAgency();
    x.player(1, 0, 0, 1);
    x.player(1, 0, 3, 1);
    x.band(1);
    x.band(1);
    x.band(1);
    x.road(0, 1, 2);
    x.ask(0, 5, 0, 14, 2, 0);
    x.ask(1, 5, 1, 18, 2, 0);
    x.ask(2, 5, 1, 17, 2, 0);
    x.ask(1, 5, 0, 10, 4, 0);
    x.ask(2, 5, 1, 10, 3, 0);
    x.ask(1, 6, 0, 14, 2, 0);
    x.ask(1, 5, 0, 14, 1, 0);
    due("no drive", x.free(1, 0), false);
    due("free", x.free(0, 0), true);
    x.fix(0);
    due("its own part does not matter", x.free(0, 0), true);
    due("just in time behind it", x.free(0, 1), true);
    due("too soon behind it", x.free(0, 2), false);
    due("just in time ahead of it", x.free(0, 3), true);
    due("too late ahead of it", x.free(0, 4), false);
    due("another day", x.free(0, 5), true);
    due("at the same time", x.free(0, 6), false);
    x.road(0, 1, 0);
    due("no way between both", x.free(0, 1), false);
    x.ask(1, 5, 1, 17, 1, 0);
    due("no way, however late", x.free(0, 7), false);
    x.road(0, 1, 2);
    x.cancel(0);
    due("a lost one is not in the way", x.free(0, 2), true);
    x.ill(0, 5);
    due("off", x.free(0, 2), false);
    due("off on that day alone", x.free(0, 5), true);
    refused(x, "player -1", INDEX, () -> x.free(-1, 0));
    refused(x, "player 2", INDEX, () -> x.free(2, 0));
    refused(x, "wedding -1", INDEX, () -> x.free(0, -1));
    refused(x, "wedding 8", INDEX, () -> x.free(0, 8));
  }

  private static void promise20() {
    FirstdanceAgency x = new FirstdanceAgency();
    x.player(1, 3, 0, 9);
    x.band(4);
    x.ask(0, 5, 0, 10, 2, 1);
    due("none", x.filling(0, 0), -1);
    due("cost of none", x.filling(0, 1), -1);
    due("how many", x.filling(0, 2), 0);
    due("too few", x.filling(0, 3), 1);
    x.player(1, 3, 0, 9);
    due("no instrument", x.filling(0, 3), 2);
    x.player(2, 2, 0, 9);
    due("songs", x.filling(0, 3), 4);
    x.learn(2, 1);
    due("there is one", x.filling(0, 3), 0);
    due("the smallest set", x.filling(0, 0), 5);
    due("cost", x.filling(0, 1), 36);
    due("two", x.filling(0, 2), 2);
    x.feud(0, 2, true);
    due("the other one", x.filling(0, 0), 6);
    x.feud(1, 2, true);
    due("feuds", x.filling(0, 3), 3);
    x.player(3, 0, 1, 1);
    due("from far away", x.filling(0, 3), 3);
    x.road(0, 1, 1);
    x.learn(3, 1);
    due("with a drive", x.filling(0, 1), 18 + 12);
    x.fix(0);
    due("of a fixed one", x.filling(0, 0), x.ofWedding(0, 7));
    x.ill(3, 5);
    due("of a lost one", x.filling(0, 3), 3);
    refused(x, "wedding -1", INDEX, () -> x.filling(-1, 0));
    refused(x, "wedding 1, wrong question", INDEX, () -> x.filling(1, 4));
    refused(x, "what -1", ARGUMENT, () -> x.filling(0, -1));
    refused(x, "what 4", ARGUMENT, () -> x.filling(0, 4));
  }

  private static void promise20Ties() {
    FirstdanceAgency x = new FirstdanceAgency();
    x.player(3, 1, 0, 5);
    x.player(6, 1, 0, 5);
    x.player(5, 1, 0, 5);
    x.band(13);
    x.band(2);
    x.band(1);
    x.ask(0, 5, 0, 10, 1, 1);
    due("round the table", x.filling(0, 0), 7);
    x.ask(1, 5, 0, 10, 1, 0);
    due("two of one instrument", x.filling(1, 0), 5);
    due("there is one such set", x.filling(1, 2), 1);
    x.ask(2, 5, 0, 10, 1, 1);
    due("one alone knows it", x.filling(2, 0), 1);
    due("two sets", x.filling(2, 2), 2);
    FirstdanceAgency y = new FirstdanceAgency();
    y.player(1, 1, 0, 1);
    y.player(1, 2, 0, 9);
    y.player(1, 3, 0, 9);
    y.band(2);
    y.ask(0, 5, 0, 10, 1, 3);
    due("each song by two", y.filling(0, 3), 4);
    y.learn(0, 2);
    y.learn(1, 1);
    due("of ten and ten", y.filling(0, 0), 3);
    due("three sets", y.filling(0, 2), 3);
  }

  private static void promise21() {
    FirstdanceAgency x = new FirstdanceAgency();
    due("nobody", x.set(0, true), 0);
    x.player(1, ALL, 0, 1);
    x.player(1, 3, 0, 1);
    x.player(1, 4, 0, 1);
    due("one alone", x.set(1, false), 16);
    due("one alone, minutes", x.set(1, true), 48);
    due("nobody", x.set(0, false), 0);
    due("what two know", x.set(3, false), 2);
    due("what two of three know", x.set(7, true), 9);
    due("nothing in common", x.set(6, false), 0);
    x.song(0, 0, 5, 3);
    x.song(1, 3, 5, 4);
    due("keys clash", x.set(3, true), 4);
    x.song(1, 10, 4, 4);
    due("around the circle", x.set(3, true), 7);
    x.song(1, 9, 4, 4);
    due("too far around it", x.set(3, true), 4);
    refused(x, "set -1", ARGUMENT, () -> x.set(-1, true));
    refused(x, "set 8", ARGUMENT, () -> x.set(8, true));
    refused(x, "set MIN", ARGUMENT, () -> x.set(MIN, false));
    refused(x, "set MAX", ARGUMENT, () -> x.set(MAX, false));
    for (int k = 3; k < 10; k++) {
      x.player(1, 0, 0, 1);
    }
    due("all ten", x.set(1023, false), 2);
    refused(x, "set 1024", ARGUMENT, () -> x.set(1024, false));
  }

  private static void promise22() {
    FirstdanceAgency x = new FirstdanceAgency();
    x.player(1, 0, 0, 1);
    x.band(1);
    x.ask(0, 40, 0, 10, 1, 0);
    due("without players", x.songs(0), "-");
    x.fix(0);
    due("without songs", x.songs(0), "-");
    x.learn(0, 1024 + 2 + 8);
    due("1 and 3, or 10", x.songs(0), "1 3");
    x.song(10, 5, 9, 2);
    due("energy rises", x.songs(0), "1 3 10");
    x.song(10, 5, 4, 4);
    due("less energy comes first", x.songs(0), "10 3");
    x.song(1, 3, 4, 2);
    due("of like energy the smaller number first", x.songs(0), "1 10 3");
    x.song(1, 5, 9, 2);
    x.song(10, 5, 9, 2);
    due("of like energy again", x.songs(0), "3 1 10");
    x.song(10, 11, 0, 9);
    due("the most minutes", x.songs(0), "10");
    x.song(10, 11, 0, 5);
    due("of several that with the smallest first song", x.songs(0), "3 1");
    x.song(3, 3, 5, 2);
    x.song(1, 9, 0, 5);
    due("as many minutes, the smallest row", x.songs(0), "1 10");
    x.song(10, 4, 0, 5);
    x.song(1, 6, 5, 5);
    x.song(3, 2, 4, 5);
    due("two rows of like minutes, the smaller second", x.songs(0), "10 1");
    x.cancel(0);
    due("of a lost one", x.songs(0), "10 1");
    refused(x, "songs of -1", INDEX, () -> x.songs(-1));
    refused(x, "songs of 1", INDEX, () -> x.songs(1));
  }

  private static void promise23() {
    FirstdanceAgency x = four();
    x.band(1);
    x.feud(1, 3, true);
    x.ask(0, 1, 0, 10, 4, 0);
    x.ask(0, 2, 0, 10, 1, 0);
    x.ask(0, 3, 0, 10, 1, 0);
    x.ask(0, 3, 0, 10, 1, 0);
    x.ask(1, 3, 0, 10, 1, 0);
    x.ill(3, 300);
    x.ill(3, 1);
    x.ill(2, 1);
    x.ill(3, 1);
    due("too few for 0", x.filling(0, 3), 1 + 1);
    x.fix(1);
    x.fix(2);
    x.pass(3);
    int[] want = {3, 4, 2, 5, 1, 1, 1, 2, 98 + 19 - 40, 1, 40, 3, 1};
    for (int what = 0; what <= 12; what++) {
      due("desk " + what, x.desk(what), want[what]);
    }
    refused(x, "desk -1", ARGUMENT, () -> x.desk(-1));
    refused(x, "desk 13", ARGUMENT, () -> x.desk(13));
    FirstdanceAgency y = new FirstdanceAgency();
    y.player(1, 0, 0, 1);
    y.band(1);
    y.ask(0, 0, 0, 10, 5, 0);
    y.fix(0);
    y.pass(1);
    due("one player alone has no gap", y.desk(12), 0);
  }

  private static void promise24() {
    FirstdanceAgency x = four();
    x.ask(0, 5, 0, 10, 1, 0);
    due("asked", x.tell(0), "0 on day 5 in 0, asked");
    x.fix(0);
    due("fixed", x.tell(0), "0 on day 5 in 0, fixed: 0,2");
    x.ask(0, 365, 3, 10, 1, 0);
    x.cancel(1);
    due("lost", x.tell(1), "1 on day 365 in 3, lost");
    x.pass(6);
    due("played", x.tell(0), "0 on day 5 in 0, played: 0,2");
    x.band(1);
    x.ask(1, 10, 0, 10, 1, 0);
    x.fix(2);
    due("one alone", x.tell(2), "2 on day 10 in 0, fixed: 0");
    x.cancel(2);
    due("lost behind fixed", x.tell(2), "2 on day 10 in 0, lost");
    refused(x, "tell -1", INDEX, () -> x.tell(-1));
    refused(x, "tell 3", INDEX, () -> x.tell(3));
  }

  private static void promise25() {
    FirstdanceAgency x = new FirstdanceAgency();
    x.player(1, 0, 0, 1);
    x.band(1);
    x.band(1);
    x.ask(0, 5, 0, 10, 2, 0);
    x.ask(1, 5, 0, 12, 2, 0);
    x.fix(0);
    x.fix(1);
    due("both", x.wouldLose(0, 5), 2);
    due("another day", x.wouldLose(0, 6), 0);
    x.player(1, 0, 1, 1);
    due("the other is far away", x.wouldLose(0, 5), 2);
    x.road(0, 1, 1);
    String before = Checks.picture(x);
    due("the other can", x.wouldLose(0, 5), 0);
    due("of one who plays none", x.wouldLose(1, 5), 0);
    due("nothing is changed", Checks.picture(x), before);
    x.ill(1, 5);
    due("the other is off", x.wouldLose(0, 5), 2);
    x.pass(4);
    refused(x, "player -1", INDEX, () -> x.wouldLose(-1, 5));
    refused(x, "player 2, wrong day", INDEX, () -> x.wouldLose(2, 3));
    refused(x, "a past day", ARGUMENT, () -> x.wouldLose(0, 3));
    refused(x, "day 366", ARGUMENT, () -> x.wouldLose(0, 366));
  }

  private static void promise26() {
    FirstdanceAgency x = new FirstdanceAgency();
    x.player(1, 0, 0, 10);
    for (int k = 0; k < 4; k++) {
      x.band(1);
    }
    due("nothing asked", x.plan(5, true), 0);
    x.ask(0, 5, 0, 10, 2, 0);
    x.ask(1, 5, 0, 11, 2, 0);
    x.ask(2, 5, 0, 13, 1, 0);
    x.ask(3, 5, 0, 20, 4, 0);
    x.ask(2, 5, 0, 20, 4, 0);
    String before = Checks.picture(x);
    due("0 and 2, or 1 and 2: of like prices the smallest", x.plan(5, true), 5);
    due("their prices", x.plan(5, false), 74 + 62);
    due("nothing is changed", Checks.picture(x), before);
    due("another day", x.plan(6, true), 0);
    x.player(1, 0, 0, 11);
    due("all three", x.plan(5, true), 7);
    due("prices of three: the one behind takes whom it gets", x.plan(5, false), 74 + 22 * 6 / 5 + 50 + 62);
    x.fix(0);
    due("the next three, of them those first in their queues", x.plan(5, true), 2 + 4 + 8);
    x.cancel(2);
    due("another is first then", x.plan(5, true), 2 + 8 + 16);
    x.cancel(4);
    x.ask(1, 7, 0, 10, 1, 0);
    x.ask(1, 7, 0, 10, 6, 0);
    due("the second of a queue is not planned", x.plan(7, true), 32);
    due("no past day has any", x.pass(6) + x.plan(5, false), 6);
    refused(x, "plan -1", ARGUMENT, () -> x.plan(-1, true));
    refused(x, "plan 366", ARGUMENT, () -> x.plan(366, false));
    due("plan 365", x.plan(365, false), 0);
  }

  private static void promise27() {
    FirstdanceAgency x = four();
    x.ask(0, 40, 0, 20, 3, 0);
    x.ask(0, 41, 0, 10, 1, 0);
    int price = x.fix(0);
    due("price", price, 194);
    int wages = 40 * 3;
    String before = Checks.picture(x);
    due("40 days ahead", x.wouldCancel(0), -(194 - 38 - wages));
    due("nothing is changed", Checks.picture(x), before);
    x.late(0, 120);
    due("late", x.wouldCancel(0), -(194 - 38 + 40 - wages - 40));
    x.pass(34);
    due("6 days ahead", x.wouldCancel(0), 194 - 38 - (194 - 38 - wages));
    refused(x, "wedding -1", INDEX, () -> x.wouldCancel(-1));
    refused(x, "wedding 2", INDEX, () -> x.wouldCancel(2));
    refused(x, "a lost one", STATE, () -> x.wouldCancel(1));
    x.pass(7);
    refused(x, "a played one", STATE, () -> x.wouldCancel(0));
    x.ask(0, 41, 0, 10, 1, 0);
    refused(x, "an asked one", STATE, () -> x.wouldCancel(2));
  }

  private static void promise28() {
    FirstdanceAgency x = four();
    x.ask(0, 5, 0, 10, 1, 0);
    due("nobody is needed", x.key(0), -1);
    x.ill(3, 5);
    due("2 is needed", x.key(0), 2);
    x.ill(0, 5);
    due("the smaller of both", x.key(0), 1);
    x.ill(1, 5);
    due("no filling at all", x.key(0), -1);
    refused(x, "key of -1", INDEX, () -> x.key(-1));
    refused(x, "key of 1", INDEX, () -> x.key(1));
  }

  private static void promise29() {
    FirstdanceAgency x = four();
    due("sound at first", x.isSound(), true);
    x.ask(0, 5, 0, 10, 1, 0);
    x.ask(0, 6, 0, 10, 1, 0);
    x.fix(0);
    x.fix(1);
    due("sound when fixed", x.isSound(), true);
    x.late(1, 77);
    x.ill(0, 5);
    x.ill(1, 5);
    due("sound when lost", x.isSound(), true);
    x.pass(7);
    due("sound when played", x.isSound(), true);
  }

  private static void promise30() {
    FirstdanceAgency x = four();
    x.road(0, 5, 4);
    x.ask(0, 5, 0, 10, 1, 0);
    x.ask(0, 9, 5, 10, 1, 3);
    x.fix(0);
    x.pass(1);
    due("digest as told", x.digest(), digestOf(x));
    x.pass(5);
    due("digest behind it", x.digest(), digestOf(x));
    FirstdanceAgency y = new FirstdanceAgency();
    due("digest of a new one", y.digest(), digestOf(y));
  }

  private static long digestOf(FirstdanceAgency x) {
    java.util.ArrayList<Long> all = new java.util.ArrayList<>();
    for (int k = 0; k <= 12; k++) all.add((long) x.desk(k));
    for (int p = 0; p < x.desk(1); p++) for (int k = 0; k <= 8; k++) all.add((long) x.ofPlayer(p, k));
    for (int s = 0; s < 16; s++) for (int k = 0; k <= 5; k++) all.add((long) x.ofSong(s, k));
    for (int b = 0; b < x.desk(2); b++) for (int k = 0; k <= 8; k++) all.add((long) x.ofBand(b, k));
    for (int w = 0; w < x.desk(3); w++) {
      for (int k = 0; k <= 12; k++) all.add((long) x.ofWedding(w, k));
      if (x.ofWedding(w, 6) == 0) for (int k = 0; k <= 3; k++) all.add((long) x.filling(w, k));
      String songs = x.songs(w);
      all.add(songs.equals("-") ? 0L : songs.split(" ").length);
    }
    all.add((long) x.set((1 << x.desk(1)) - 1, true));
    all.add((long) x.drive(0, 5));
    all.add(x.isSound() ? 1L : 0L);
    long d = 58278;
    for (long v : all) d = d * 31 + v;
    return d;
  }
}
