import java.util.Random;

/**
 * Two agencies: one is told and asked all that is drawn, the other only what it was told without an exception. Both
 * have to be alike all the time, also in what shows only later: so what throws, what asks, and what would be change
 * nothing.
 */
public final class TwinTest {
  private interface Call {
    Object of(FirstdanceAgency x);
  }

  private static final int RUNS = 150;
  private static final int CALLS = 500;

  private final Random random;
  private final FirstdanceAgency x = new FirstdanceAgency();
  private final FirstdanceAgency twin = new FirstdanceAgency();
  private final String name;
  private int refused = 0;

  private TwinTest(int run) {
    random = new Random(run * 104729L);
    name = "run " + run;
  }

  public static void main(String[] args) {
    int refused = 0;
    for (int run = 0; run < RUNS; run++) {
      refused += new TwinTest(run).go();
    }
    Checks.due("enough calls were refused", refused > RUNS * CALLS / 10, true);
    Checks.end("TwinTest");
  }

  private int go() {
    for (int k = 0; k < CALLS; k++) {
      if (random.nextInt(3) > 0) {
        tell("call " + k);
      } else {
        ask();
      }
      if (k % 25 == 24) {
        Checks.due(name + ", behind call " + k, Checks.picture(x), Checks.picture(twin));
      }
    }
    return refused;
  }

  /** Mostly from the first to the last one, and at times just beside them. */
  private int about(int first, int last) {
    return random.nextInt(25) == 0 ? (random.nextBoolean() ? first - 1 : last + 1)
        : first + random.nextInt(last - first + 1);
  }

  /** Of those that are there, and at times one more. */
  private int number(int howMany) {
    return random.nextInt(25) == 0 ? howMany : howMany == 0 ? 0 : random.nextInt(howMany);
  }

  private int day() {
    return x.desk(0) + (random.nextInt(25) == 0 ? -1 : random.nextInt(9));
  }

  private void tell(String call) {
    Call drawn = drawn();
    Object answer;
    try {
      answer = drawn.of(x);
    } catch (IndexOutOfBoundsException | IllegalArgumentException | IllegalStateException e) {
      refused++;
      return;
    }
    Object likewise;
    try {
      likewise = drawn.of(twin);
    } catch (RuntimeException e) {
      likewise = e;
    }
    Checks.due(name + ", " + call, answer, likewise);
  }

  private Call drawn() {
    int p = number(x.desk(1)), q = number(x.desk(1)), b = number(x.desk(2)), w = number(x.desk(3));
    int songs = about(0, 65535), day = day(), town = about(0, 5), other = about(0, 5), small = about(1, 6);
    int instruments = about(1, 63), fee = about(1, 99), start = about(10, 18), few = about(0, 3), hours = about(0, 9);
    int minutes = about(0, 240), key = about(0, 11), energy = about(0, 9), long9 = about(2, 9), s = about(0, 15);
    boolean is = random.nextBoolean();
    switch (random.nextInt(20)) {
      case 0: case 1: return y -> y.player(instruments, songs, town % 3, fee);
      case 2: return y -> y.learn(p, songs);
      case 3: return y -> y.song(s, key, energy, long9);
      case 4: return y -> y.feud(p, q, is);
      case 5: case 6: return y -> y.road(town, other, hours);
      case 7: return y -> y.band(small);
      case 8: case 9: case 10: return y -> y.ask(b, day, town % 3, start, small, few);
      case 11: case 12: case 13: return y -> y.fix(w);
      case 14: return y -> y.cancel(w);
      case 15: return y -> y.ill(p, day);
      case 16: case 17: return y -> y.late(w, minutes);
      case 18: return y -> y.pass(few);
      default: return y -> y.pass(is ? 0 : 61);
    }
  }

  /** Whatever is asked of the one alone, and what would be. */
  private void ask() {
    int p = number(x.desk(1)), w = number(x.desk(3)), day = day(), what = about(0, 12);
    boolean is = random.nextBoolean();
    Call[] asked = {y -> y.wouldLose(p, day), y -> y.plan(day, is), y -> y.wouldCancel(w), y -> y.key(w),
        y -> y.filling(w, what % 5), y -> y.free(p, w), y -> y.set(1 << p, is), y -> y.songs(w), y -> y.tell(w),
        y -> y.ofWedding(w, what), y -> y.ofPlayer(p, what), y -> y.desk(what), y -> y.isSound(), y -> y.digest()};
    try {
      asked[random.nextInt(asked.length)].of(x);
    } catch (IndexOutOfBoundsException | IllegalArgumentException | IllegalStateException e) {
      refused++;
    }
  }
}
