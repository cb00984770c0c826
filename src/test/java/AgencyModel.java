import java.util.ArrayList;
import java.util.Arrays;
import java.util.Collections;
import java.util.List;
import java.util.TreeSet;

/**
 * The document once more, written to be compared with: slow, with lists, and what would be is done on a copy.
 * Arguments are taken as right, but where the state decides: then it throws IllegalStateException.
 */
final class AgencyModel {
  static final class P implements Cloneable {
    TreeSet<Integer> instruments = new TreeSet<>();
    TreeSet<Integer> songs = new TreeSet<>();
    TreeSet<Integer> off = new TreeSet<>();
    TreeSet<Integer> feuds = new TreeSet<>();
    int home, fee, earned;
  }

  static final class W {
    int number, band, day, town, start, length, told, price, late, paid;
    String state = "asked";
    TreeSet<Integer> promised = new TreeSet<>();
    TreeSet<Integer> players = new TreeSet<>();
  }

  List<P> players = new ArrayList<>();
  List<W> weddings = new ArrayList<>();
  List<List<Integer>> bands = new ArrayList<>();
  int[] key = new int[16], energy = new int[16], minutes = new int[16], played = new int[16];
  int[][] roads = new int[6][6];
  int today, cash, banned = -1;

  AgencyModel() {
    for (int s = 0; s < 16; s++) {
      key[s] = s % 12;
      energy[s] = 5;
      minutes[s] = 3;
    }
  }

  AgencyModel copy() {
    AgencyModel c = new AgencyModel();
    for (P p : players) {
      P q = new P();
      q.instruments.addAll(p.instruments);
      q.songs.addAll(p.songs);
      q.off.addAll(p.off);
      q.feuds.addAll(p.feuds);
      q.home = p.home;
      q.fee = p.fee;
      q.earned = p.earned;
      c.players.add(q);
    }
    for (W w : weddings) {
      W v = new W();
      v.number = w.number;
      v.band = w.band;
      v.day = w.day;
      v.town = w.town;
      v.start = w.start;
      v.length = w.length;
      v.told = w.told;
      v.price = w.price;
      v.late = w.late;
      v.paid = w.paid;
      v.state = w.state;
      v.promised.addAll(w.promised);
      v.players.addAll(w.players);
      c.weddings.add(v);
    }
    c.bands.addAll(bands);
    c.key = key.clone();
    c.energy = energy.clone();
    c.minutes = minutes.clone();
    c.played = played.clone();
    for (int a = 0; a < 6; a++) c.roads[a] = roads[a].clone();
    c.today = today;
    c.cash = cash;
    return c;
  }

  static TreeSet<Integer> numbers(int set) {
    TreeSet<Integer> all = new TreeSet<>();
    for (int k = 0; k < 31; k++) if ((set & (1 << k)) != 0) all.add(k);
    return all;
  }

  static int sum(Iterable<Integer> all) {
    int set = 0;
    for (int k : all) set += 1 << k;
    return set;
  }

  int player(int instruments, int songs, int home, int fee) {
    if (players.size() == 10) throw new IllegalStateException();
    P p = new P();
    p.instruments = numbers(instruments);
    p.songs = numbers(songs);
    p.home = home;
    p.fee = fee;
    players.add(p);
    return players.size() - 1;
  }

  int learn(int player, int songs) {
    players.get(player).songs.addAll(numbers(songs));
    return players.get(player).songs.size();
  }

  int song(int s, int k, int e, int m) {
    int before = minutes[s];
    key[s] = k;
    energy[s] = e;
    minutes[s] = m;
    return before;
  }

  int feud(int one, int other, boolean is) {
    boolean was = players.get(one).feuds.contains(other);
    if (is) {
      players.get(one).feuds.add(other);
      players.get(other).feuds.add(one);
    } else {
      players.get(one).feuds.remove(other);
      players.get(other).feuds.remove(one);
    }
    return was ? 1 : 0;
  }

  int road(int one, int other, int hours) {
    roads[one][other] = roads[other][one] = hours;
    return drive(one, other);
  }

  /** By hours going by, one after the other. */
  int drive(int from, int to) {
    int[] at = new int[6];
    Arrays.fill(at, -1);
    at[from] = 0;
    for (int hour = 0; hour <= 60; hour++) {
      for (int a = 0; a < 6; a++) {
        if (at[a] != hour) continue;
        for (int b = 0; b < 6; b++) {
          if (roads[a][b] > 0 && (at[b] < 0 || at[b] > hour + roads[a][b])) at[b] = hour + roads[a][b];
        }
      }
    }
    return at[to];
  }

  int band(int shape) {
    if (bands.size() == 6) throw new IllegalStateException();
    List<Integer> places = new ArrayList<>();
    String digits = Integer.toString(shape, 3);
    for (int k = 0; k < digits.length(); k++) {
      for (int n = 0; n < digits.charAt(digits.length() - 1 - k) - '0'; n++) places.add(k);
    }
    bands.add(places);
    return bands.size() - 1;
  }

  int ask(int band, int day, int town, int start, int length, int songs) {
    if (weddings.size() == 14) throw new IllegalStateException();
    for (W w : weddings) {
      if (w.band == band && w.day == day && w.state.equals("fixed")) throw new IllegalStateException();
    }
    W w = new W();
    w.number = weddings.size();
    w.band = band;
    w.day = day;
    w.town = town;
    w.start = start;
    w.length = length;
    w.promised = numbers(songs);
    w.told = today;
    weddings.add(w);
    return w.number;
  }

  List<Integer> queue(W of) {
    List<Integer> all = new ArrayList<>();
    for (W w : weddings) {
      if (w.state.equals("asked") && w.band == of.band && w.day == of.day) all.add(w.number);
    }
    return all;
  }

  boolean isFree(int p, W w) {
    P player = players.get(p);
    if (p == banned || player.off.contains(w.day) || drive(player.home, w.town) < 0) return false;
    for (W v : weddings) {
      if (v == w || v.day != w.day || !v.state.equals("fixed") || !v.players.contains(p)) continue;
      W a = v, b = w;
      if (w.start < v.start || (w.start == v.start && w.number < v.number)) {
        a = w;
        b = v;
      }
      int way = drive(a.town, b.town);
      if (way < 0 || a.start + a.length + way > b.start) return false;
    }
    return true;
  }

  boolean canSeat(List<Integer> set, List<Integer> places) {
    if (set.isEmpty()) return true;
    for (int k = 0; k < places.size(); k++) {
      if (!players.get(set.get(0)).instruments.contains(places.get(k))) continue;
      List<Integer> rest = new ArrayList<>(places);
      rest.remove(k);
      if (canSeat(set.subList(1, set.size()), rest)) return true;
    }
    return false;
  }

  boolean knowEnough(List<Integer> set, int song) {
    int know = 0;
    for (int p : set) if (players.get(p).songs.contains(song)) know++;
    return know >= 2 || (know == 1 && set.size() == 1);
  }

  int cost(int p, W w) {
    int way = drive(players.get(p).home, w.town);
    return players.get(p).fee * w.length + (way < 0 ? 0 : 10 * way);
  }

  int cost(List<Integer> set, W w) {
    int all = 0;
    for (int p : set) all += cost(p, w);
    return all;
  }

  /** All sets of so many of those who are there. */
  static void sets(List<Integer> from, int size, List<Integer> begun, List<List<Integer>> into) {
    if (begun.size() == size) {
      into.add(new ArrayList<>(begun));
      return;
    }
    for (int k = 0; k < from.size(); k++) {
      begun.add(from.get(k));
      sets(from.subList(k + 1, from.size()), size, begun, into);
      begun.remove(begun.size() - 1);
    }
  }

  /** The sets that are left with the first so many conditions: 1 free, 2 instruments, 3 songs, 4 feuds. */
  List<List<Integer>> left(W w, int conditions) {
    List<Integer> free = new ArrayList<>();
    for (int p = 0; p < players.size(); p++) if (isFree(p, w)) free.add(p);
    List<List<Integer>> all = new ArrayList<>();
    List<Integer> places = bands.get(w.band);
    sets(free, places.size(), new ArrayList<>(), all);
    if (conditions >= 2) all.removeIf(set -> !canSeat(set, places));
    if (conditions >= 3) {
      all.removeIf(set -> {
        for (int s : w.promised) if (!knowEnough(set, s)) return true;
        return false;
      });
    }
    if (conditions >= 4) {
      all.removeIf(set -> {
        for (int p : set) if (!Collections.disjoint(players.get(p).feuds, set)) return true;
        return false;
      });
    }
    return all;
  }

  List<Integer> best(W w, TreeSet<Integer> had) {
    List<List<Integer>> all = left(w, 4);
    if (all.isEmpty()) return null;
    all.sort((a, b) -> {
      List<Integer> keptA = new ArrayList<>(a), keptB = new ArrayList<>(b);
      keptA.retainAll(had);
      keptB.retainAll(had);
      if (keptA.size() != keptB.size()) return keptB.size() - keptA.size();
      if (cost(a, w) != cost(b, w)) return cost(a, w) - cost(b, w);
      return sum(a) - sum(b);
    });
    return all.get(0);
  }

  int filling(int number, int what) {
    W w = weddings.get(number);
    List<Integer> best = best(w, new TreeSet<>());
    if (what == 0) return best == null ? -1 : sum(best);
    if (what == 1) return best == null ? -1 : cost(best, w);
    if (what == 2) return left(w, 4).size();
    for (int why = 1; why <= 4; why++) {
      if (left(w, why).isEmpty()) return why == 3 ? 4 : why == 4 ? 3 : why;
    }
    return 0;
  }

  int fix(int number) {
    W w = weddings.get(number);
    List<Integer> queue = queue(w);
    if (!w.state.equals("asked") || queue.get(0) != number) throw new IllegalStateException();
    List<Integer> best = best(w, new TreeSet<>());
    if (best == null) throw new IllegalStateException();
    for (int v : queue) weddings.get(v).state = "lost";
    w.state = "fixed";
    w.players = new TreeSet<>(best);
    w.price = (int) Math.floor(cost(best, w) * 1.2 + 1e-6) + 50;
    pay(w, w.price / 5);
    return w.price;
  }

  void pay(W w, int amount) {
    w.paid += amount;
    cash += amount;
  }

  int cancel(int number) {
    W w = weddings.get(number);
    if (w.state.equals("played") || w.state.equals("lost")) throw new IllegalStateException();
    boolean wasFixed = w.state.equals("fixed");
    w.state = "lost";
    if (!wasFixed) return 0;
    int days = w.day - today;
    int hundredths = 100;
    if (days >= 7) hundredths = 70;
    if (days >= 14) hundredths = 40;
    if (days >= 30) hundredths = 20;
    int owed = w.price * hundredths / 100;
    if (owed > w.paid) pay(w, owed - w.paid);
    return owed;
  }

  int ill(int player, int day) {
    players.get(player).off.add(day);
    int lost = 0;
    for (W w : weddings) {
      if (!w.state.equals("fixed") || w.day != day || !w.players.contains(player)) continue;
      List<Integer> best = best(w, w.players);
      if (best != null) {
        w.players = new TreeSet<>(best);
        continue;
      }
      w.state = "lost";
      pay(w, -w.paid);
      pay(w, -(w.price / 10));
      lost++;
    }
    return lost;
  }

  int quarters(W w) {
    int quarters = 0;
    for (int minute = 0; minute < w.late; minute++) {
      if (w.start * 60 + w.length * 60 + minute < 24 * 60 && minute % 15 == 0) quarters++;
    }
    return quarters;
  }

  int late(int number, int minutes) {
    W w = weddings.get(number);
    if (!w.state.equals("fixed")) throw new IllegalStateException();
    w.late = minutes;
    return quarters(w);
  }

  void play(W w) {
    int fees = 0;
    for (int p : w.players) fees += players.get(p).fee;
    pay(w, w.price - w.price / 5);
    pay(w, quarters(w) * fees / 4);
    for (int p : w.players) {
      int wage = cost(p, w) + quarters(w) * players.get(p).fee / 4;
      players.get(p).earned += wage;
      cash -= wage;
    }
    for (int s : bestSet(new ArrayList<>(w.players))) played[s]++;
    w.state = "played";
  }

  int pass(int days) {
    if (today + days > 365) throw new IllegalStateException();
    for (int k = 0; k < days; k++) {
      for (W w : weddings) if (w.day == today && w.state.equals("fixed")) play(w);
      for (W w : weddings) if (w.day == today && w.state.equals("asked")) w.state = "lost";
      today++;
      for (W w : weddings) if (w.state.equals("asked") && today - w.told >= 5) w.state = "lost";
    }
    return today;
  }

  List<Integer> bestSet(List<Integer> set) {
    List<Integer> playable = new ArrayList<>();
    for (int s = 0; s < 16; s++) if (knowEnough(set, s)) playable.add(s);
    playable.sort((a, b) -> energy[a] != energy[b] ? energy[a] - energy[b] : a - b);
    List<Integer> best = new ArrayList<>();
    List<List<Integer>> from = new ArrayList<>();
    for (int k = playable.size() - 1; k >= 0; k--) {
      int s = playable.get(k);
      List<Integer> mine = List.of(s);
      for (List<Integer> rest : from) {
        if (Math.floorMod(key[s] - key[rest.get(0)] + 2, 12) > 4) continue;
        List<Integer> row = new ArrayList<>(List.of(s));
        row.addAll(rest);
        if (isBetter(row, mine)) mine = row;
      }
      from.add(mine);
      if (isBetter(mine, best)) best = mine;
    }
    return best;
  }

  int minutesOf(List<Integer> row) {
    int all = 0;
    for (int s : row) all += minutes[s];
    return all;
  }

  boolean isBetter(List<Integer> a, List<Integer> b) {
    if (minutesOf(a) != minutesOf(b)) return minutesOf(a) > minutesOf(b);
    for (int k = 0; k < Math.min(a.size(), b.size()); k++) {
      if (!a.get(k).equals(b.get(k))) return a.get(k) < b.get(k);
    }
    return a.size() < b.size();
  }

  int ofPlayer(int p, int what) {
    P player = players.get(p);
    int fixed = 0, playedOnes = 0, hours = 0;
    for (W w : weddings) {
      if (!w.players.contains(p)) continue;
      if (w.state.equals("fixed")) fixed++;
      if (w.state.equals("played")) playedOnes++;
      if (w.state.equals("played")) hours += w.length;
    }
    return new int[] {sum(player.instruments), sum(player.songs), player.home, player.fee, sum(player.feuds),
        player.earned, fixed, playedOnes, hours}[what];
  }

  int ofSong(int s, int what) {
    int all = 0, know = 0;
    for (int k = 0; k < 16; k++) all += minutes[k] * played[k];
    for (P p : players) if (p.songs.contains(s)) know++;
    int share = all == 0 ? 0 : minutes[s] * played[s] * 1000 / all;
    return new int[] {key[s], energy[s], minutes[s], played[s], share, know}[what];
  }

  int ofBand(int b, int what) {
    if (what < 6) return Collections.frequency(bands.get(b), what);
    if (what == 6) return bands.get(b).size();
    int count = 0;
    for (W w : weddings) if (w.band == b && (what == 7 || w.state.equals("played"))) count++;
    return count;
  }

  int ofWedding(int number, int what) {
    W w = weddings.get(number);
    int place = w.state.equals("asked") ? queue(w).indexOf(number) : -1;
    int state = List.of("asked", "fixed", "played", "lost").indexOf(w.state);
    return new int[] {w.band, w.day, w.town, w.start, w.length, sum(w.promised), state, sum(w.players), w.price,
        w.late, w.paid, place, quarters(w)}[what];
  }

  int free(int p, int number) {
    return isFree(p, weddings.get(number)) ? 1 : 0;
  }

  int set(int set, boolean isMinutes) {
    List<Integer> row = bestSet(new ArrayList<>(numbers(set)));
    return isMinutes ? minutesOf(row) : row.size();
  }

  String songs(int number) {
    List<Integer> row = bestSet(new ArrayList<>(weddings.get(number).players));
    if (row.isEmpty()) return "-";
    StringBuilder text = new StringBuilder();
    for (int s : row) text.append(s).append(' ');
    return text.toString().trim();
  }

  int desk(int what) {
    int[] all = new int[13];
    all[0] = today;
    all[1] = players.size();
    all[2] = bands.size();
    all[3] = weddings.size();
    for (int w = 0; w < weddings.size(); w++) all[4 + ofWedding(w, 6)]++;
    all[8] = cash;
    TreeSet<Integer> hours = new TreeSet<>();
    for (int p = 0; p < players.size(); p++) {
      for (int other : players.get(p).feuds) if (other > p) all[9]++;
      all[10] += players.get(p).earned;
      all[11] += players.get(p).off.size();
      hours.add(ofPlayer(p, 8));
    }
    all[12] = hours.isEmpty() ? 0 : hours.last() - hours.first();
    return all[what];
  }

  String tell(int number) {
    W w = weddings.get(number);
    String text = number + " on day " + w.day + " in " + w.town + ", " + w.state;
    if (w.state.equals("asked") || w.state.equals("lost")) return text;
    return text + ": " + w.players.toString().replaceAll("[\\[\\] ]", "");
  }

  int wouldLose(int player, int day) {
    return copy().ill(player, day);
  }

  int plan(int day, boolean isSet) {
    List<Integer> firsts = new ArrayList<>();
    for (W w : weddings) {
      if (w.day == day && ofWedding(w.number, 11) == 0 && firsts.size() < 3) firsts.add(w.number);
    }
    int best = 0, most = 0;
    for (int set = 0; set < 1 << 14; set++) {
      if (!firsts.containsAll(numbers(set))) continue;
      AgencyModel c = copy();
      int together = 0;
      try {
        for (int w : numbers(set)) together += c.fix(w);
      } catch (IllegalStateException e) {
        continue;
      }
      if (together > most) {
        most = together;
        best = set;
      }
    }
    return isSet ? best : most;
  }

  int wouldCancel(int number) {
    if (!weddings.get(number).state.equals("fixed")) throw new IllegalStateException();
    AgencyModel one = copy(), other = copy();
    one.cancel(number);
    other.play(other.weddings.get(number));
    return one.cash - other.cash;
  }

  int key(int number) {
    if (left(weddings.get(number), 4).isEmpty()) return -1;
    for (int p = 0; p < players.size(); p++) {
      banned = p;
      boolean isNone = left(weddings.get(number), 4).isEmpty();
      banned = -1;
      if (isNone) return p;
    }
    return -1;
  }

  long digest() {
    List<Integer> all = new ArrayList<>();
    for (int k = 0; k <= 12; k++) all.add(desk(k));
    for (int p = 0; p < players.size(); p++) for (int k = 0; k <= 8; k++) all.add(ofPlayer(p, k));
    for (int s = 0; s < 16; s++) for (int k = 0; k <= 5; k++) all.add(ofSong(s, k));
    for (int b = 0; b < bands.size(); b++) for (int k = 0; k <= 8; k++) all.add(ofBand(b, k));
    for (W w : weddings) {
      for (int k = 0; k <= 12; k++) all.add(ofWedding(w.number, k));
      if (w.state.equals("asked")) for (int k = 0; k <= 3; k++) all.add(filling(w.number, k));
      all.add(bestSet(new ArrayList<>(w.players)).size());
    }
    all.add(set((1 << players.size()) - 1, true));
    all.add(drive(0, 5));
    all.add(1);
    long d = 58278;
    for (int v : all) d = d * 31 + v;
    return d;
  }
}
