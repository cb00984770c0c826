import java.util.Random;

/** Long runs of drawn calls (the same ones each time), each answer compared with that of AgencyModel. */
public final class ModelTest {
  private interface Call {
    Object run();
  }

  private static final int RUNS = 400;
  private static final int CALLS = 250;

  private final Random random;
  private final FirstdanceAgency x = new FirstdanceAgency();
  private final AgencyModel m = new AgencyModel();
  private final String name;
  private final int soonDays;

  private ModelTest(int run) {
    random = new Random(run * 7919L);
    name = "run " + run;
    soonDays = 1 + random.nextInt(8);
  }

  public static void main(String[] args) {
    for (int run = 0; run < RUNS; run++) {
      new ModelTest(run).go();
    }
    rowsOfSongs();
    Checks.end("ModelTest");
  }

  private int below(int bound) {
    return random.nextInt(bound);
  }

  private static Object answer(Call call) {
    try {
      return call.run();
    } catch (IllegalStateException e) {
      return "throws IllegalStateException";
    }
  }

  private void both(String call, Call mine, Call model) {
    Checks.due(name + ": " + call, answer(mine), answer(model));
  }

  private void go() {
    int players = 2 + below(9);
    for (int p = 0; p < players; p++) {
      tellPlayer();
    }
    for (int k = 1 + below(4); k > 0 || m.bands.isEmpty(); k--) {
      tellBand();
    }
    for (int k = below(6); k > 0; k--) {
      tellRoad();
    }
    for (int k = below(8); k > 0; k--) {
      tellSong();
    }
    for (int k = 0; k < CALLS; k++) {
      draw();
      if (k % 16 == 0) {
        both("digest", x::digest, m::digest);
      }
    }
    both("isSound", x::isSound, () -> true);
  }

  private void draw() {
    int what = below(100);
    if (what < 2) tellPlayer();
    else if (what < 4) tellLearn();
    else if (what < 7) tellSong();
    else if (what < 11) tellFeud();
    else if (what < 16) tellRoad();
    else if (what < 18) tellBand();
    else if (what < 24) tellWedding();
    else if (what < 46) ofWeddings(what - 24);
    else if (what < 50) tellIll();
    else if (what < 53) tellPass();
    else if (what < 56) askPlan();
    else if (what < 60) askWouldLose();
    else askRest();
  }

  private int songSet() {
    return below(3) == 0 ? 65535 : below(2) == 0 ? below(65536) | below(65536) : below(65536);
  }

  private int promisedSet() {
    return below(2) == 0 ? 0 : below(3) == 0 ? below(65536) & below(65536) : 1 << below(16);
  }

  private void tellPlayer() {
    int instruments = 1 + below(63), songs = songSet(), home = below(3) == 0 ? below(6) : 0;
    int fee = below(2) == 0 ? 1 + below(4) : 1 + below(99);
    both("player", () -> x.player(instruments, songs, home, fee), () -> m.player(instruments, songs, home, fee));
  }

  private void tellLearn() {
    int p = below(m.players.size()), songs = below(65536);
    both("learn", () -> x.learn(p, songs), () -> m.learn(p, songs));
  }

  private void tellSong() {
    int s = below(16), key = below(12), energy = below(10), minutes = 2 + below(8);
    both("song", () -> x.song(s, key, energy, minutes), () -> m.song(s, key, energy, minutes));
  }

  private void tellFeud() {
    int one = below(m.players.size()), other = below(m.players.size());
    boolean is = below(2) == 0;
    if (one != other) both("feud", () -> x.feud(one, other, is) ? 1 : 0, () -> m.feud(one, other, is));
  }

  private void tellRoad() {
    int one = below(3) == 0 ? below(6) : 0, other = below(6), hours = below(6) == 0 ? 0 : 1 + below(3);
    if (one != other) both("road", () -> x.road(one, other, hours), () -> m.road(one, other, hours));
  }

  private void tellBand() {
    int shape = below(2) == 0 ? (int) Math.pow(3, below(6)) : 1 + below(728);
    int needed = 0;
    for (int rest = shape; rest > 0; rest /= 3) needed += rest % 3;
    if (needed <= 5) both("band", () -> x.band(shape), () -> m.band(shape));
  }

  private void tellWedding() {
    int band = below(m.bands.size()), day = Math.min(365, m.today + below(soonDays));
    int town = below(2) == 0 ? below(6) : 0, start = 10 + below(13), length = 1 + below(Math.min(6, 24 - start));
    int songs = promisedSet();
    both("ask", () -> x.ask(band, day, town, start, length, songs), () -> m.ask(band, day, town, start, length, songs));
  }

  private void ofWeddings(int what) {
    if (m.weddings.isEmpty()) return;
    int w = below(m.weddings.size()), minutes = below(241), detail = below(13), p = below(m.players.size());
    if (what < 6) both("fix " + w, () -> x.fix(w), () -> m.fix(w));
    else if (what < 8) both("late " + w, () -> x.late(w, minutes), () -> m.late(w, minutes));
    else if (what < 9) both("cancel " + w, () -> x.cancel(w), () -> m.cancel(w));
    else if (what < 11) both("wouldCancel " + w, () -> x.wouldCancel(w), () -> m.wouldCancel(w));
    else if (what < 13) both("key " + w, () -> x.key(w), () -> m.key(w));
    else if (what < 14) both("tell " + w, () -> x.tell(w), () -> m.tell(w));
    else if (what < 15) both("songs " + w, () -> x.songs(w), () -> m.songs(w));
    else if (what < 17) both("free " + w, () -> x.free(p, w) ? 1 : 0, () -> m.free(p, w));
    else if (what < 19) both("ofWedding " + w, () -> x.ofWedding(w, detail), () -> m.ofWedding(w, detail));
    else both("filling " + w, () -> x.filling(w, detail % 4), () -> m.filling(w, detail % 4));
  }

  private int dayToCome() {
    if (!m.weddings.isEmpty() && below(4) != 0) {
      return Math.max(m.today, m.weddings.get(below(m.weddings.size())).day);
    }
    return m.today + below(366 - m.today);
  }

  private void tellIll() {
    int p = below(m.players.size()), day = dayToCome();
    both("ill " + p + " " + day, () -> x.ill(p, day), () -> m.ill(p, day));
  }

  private void tellPass() {
    int days = below(6) == 0 ? 1 + below(60) : 1 + below(2);
    both("pass " + days, () -> x.pass(days), () -> m.pass(days));
  }

  private void askPlan() {
    int day = dayToCome();
    both("plan " + day, () -> x.plan(day, true), () -> m.plan(day, true));
    both("prices " + day, () -> x.plan(day, false), () -> m.plan(day, false));
  }

  private void askWouldLose() {
    int p = below(m.players.size()), day = dayToCome();
    both("wouldLose " + p + " " + day, () -> x.wouldLose(p, day), () -> m.wouldLose(p, day));
  }

  private void askRest() {
    int p = below(m.players.size()), s = below(16), b = below(m.bands.size()), what = below(13);
    int set = below(1 << m.players.size()), one = below(6), other = below(6);
    both("ofPlayer", () -> x.ofPlayer(p, what % 9), () -> m.ofPlayer(p, what % 9));
    both("ofSong", () -> x.ofSong(s, what % 6), () -> m.ofSong(s, what % 6));
    both("ofBand", () -> x.ofBand(b, what % 9), () -> m.ofBand(b, what % 9));
    both("desk", () -> x.desk(what), () -> m.desk(what));
    both("set", () -> x.set(set, what % 2 == 0), () -> m.set(set, what % 2 == 0));
    both("drive", () -> x.drive(one, other), () -> m.drive(one, other));
  }

  /** The best set against all 65536 sets of songs, each of which has only one order. */
  private static void rowsOfSongs() {
    for (int run = 0; run < 60; run++) {
      Random random = new Random(run);
      FirstdanceAgency x = new FirstdanceAgency();
      AgencyModel m = new AgencyModel();
      int known = random.nextInt(65536) | random.nextInt(65536);
      x.player(1, known, 0, 1);
      m.player(1, known, 0, 1);
      x.band(1);
      x.ask(0, 0, 0, 10, 1, 0);
      x.fix(0);
      for (int s = 0; s < 16; s++) {
        int key = random.nextInt(12), energy = random.nextInt(1 + run % 10), minutes = 2 + random.nextInt(1 + run % 8);
        x.song(s, key, energy, minutes);
        m.song(s, key, energy, minutes);
      }
      java.util.List<Integer> best = new java.util.ArrayList<>();
      for (int set = 1; set < 65536; set++) {
        if ((set & ~known) != 0) continue;
        java.util.List<Integer> row = new java.util.ArrayList<>(AgencyModel.numbers(set));
        row.sort((a, b) -> m.energy[a] - m.energy[b]);
        boolean fits = true;
        for (int k = 1; k < row.size(); k++) {
          int apart = Math.abs(m.key[row.get(k)] - m.key[row.get(k - 1)]);
          fits &= Math.min(apart, 12 - apart) <= 2;
        }
        if (fits && m.isBetter(row, best)) best = row;
      }
      String want = best.isEmpty() ? "-" : best.toString().replaceAll("[\\[\\],]", "");
      Checks.due("rows " + run, x.songs(0), want);
      Checks.due("minutes " + run, x.set(1, true), m.minutesOf(best));
    }
  }
}
