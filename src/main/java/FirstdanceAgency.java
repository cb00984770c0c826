/** Bands for weddings. DOC.md says what each call does; its words in capitals are the plain names here. */
public final class FirstdanceAgency {
  private static final int NONE = -1;

  private static final int MOST_PLAYERS = 10;
  private static final int MOST_BANDS = 6;
  private static final int MOST_WEDDINGS = 14;
  private static final int MOST_PLACES = 5;
  private static final int MOST_PLANNED = 3;

  private static final int INSTRUMENTS = 6;
  private static final int SONGS = 16;
  private static final int TOWNS = 6;
  private static final int KEYS = 12;
  private static final int ENERGIES = 10;

  private static final int LAST_DAY = 365;
  private static final int MIDNIGHT = 24;
  private static final int DAYS_TO_WAIT = 5;

  private static final int ASKED = 0;
  private static final int FIXED = 1;
  private static final int PLAYED = 2;
  private static final int LOST = 3;

  private static final int WHY_THERE_IS_ONE = 0;
  private static final int WHY_TOO_FEW = 1;
  private static final int WHY_INSTRUMENTS = 2;
  private static final int WHY_FEUDS = 3;
  private static final int WHY_SONGS = 4;

  // Every row is made once, here or in the constructor: no call leaves anything behind but its text.
  private final Player[] players = new Player[MOST_PLAYERS];
  private final Song[] allSongs = new Song[SONGS];
  private final Band[] bands = new Band[MOST_BANDS];
  private final Wedding[] weddings = new Wedding[MOST_WEDDINGS];
  private final Roads roads = new Roads();
  private final int[] offOn = new int[LAST_DAY + 1];
  private int playerCount = 0;
  private int bandCount = 0;
  private int weddingCount = 0;
  private int today = 0;
  private int cash = 0;

  // What is being reckoned. On stage stand the players of each fixed wedding, or those who would be there.
  private final int[] stage = new int[MOST_WEDDINGS];
  private final boolean[] seated = new boolean[1 << MOST_PLAYERS];
  private final Fillings found = new Fillings();
  private final BestSet bestSet = new BestSet();

  public FirstdanceAgency() {
    for (int k = 0; k < MOST_PLAYERS; k++) {
      players[k] = new Player();
    }
    for (int k = 0; k < SONGS; k++) {
      allSongs[k] = new Song(k % KEYS);
    }
    for (int k = 0; k < MOST_BANDS; k++) {
      bands[k] = new Band();
    }
    for (int k = 0; k < MOST_WEDDINGS; k++) {
      weddings[k] = new Wedding();
    }
  }

  // ---- what is told

  public int player(int instruments, int songs, int home, int fee)
      throws IndexOutOfBoundsException, IllegalArgumentException, IllegalStateException {
    if (!isTown(home)) {
      throw new IndexOutOfBoundsException("no such town");
    }
    if (instruments < 1 || instruments >= 1 << INSTRUMENTS || !isSetOfSongs(songs) || fee < 1 || fee > 99) {
      throw new IllegalArgumentException("no such player can be told");
    }
    if (playerCount >= MOST_PLAYERS) {
      throw new IllegalStateException("there are as many players as there can be");
    }
    Player added = players[playerCount];
    added.instruments = instruments;
    added.known = songs;
    added.home = home;
    added.fee = fee;
    playerCount++;
    return playerCount - 1;
  }

  public int learn(int player, int songs) throws IndexOutOfBoundsException, IllegalArgumentException {
    checkPlayer(player);
    if (!isSetOfSongs(songs)) {
      throw new IllegalArgumentException("not a set of songs");
    }
    players[player].known |= songs;
    return Integer.bitCount(players[player].known);
  }

  public int song(int song, int key, int energy, int minutes)
      throws IndexOutOfBoundsException, IllegalArgumentException {
    checkSong(song);
    if (key < 0 || key >= KEYS || energy < 0 || energy >= ENERGIES || minutes < 2 || minutes > 9) {
      throw new IllegalArgumentException("no song can be like that");
    }
    Song told = allSongs[song];
    int before = told.minutes;
    told.key = key;
    told.energy = energy;
    told.minutes = minutes;
    return before;
  }

  public boolean feud(int one, int other, boolean is) throws IndexOutOfBoundsException, IllegalArgumentException {
    checkPlayer(one);
    checkPlayer(other);
    if (one == other) {
      throw new IllegalArgumentException("nobody has a feud alone");
    }
    boolean was = has(players[one].feuds, other);
    if (was != is) {
      players[one].feuds ^= 1 << other;
      players[other].feuds ^= 1 << one;
    }
    return was;
  }

  public int road(int one, int other, int hours) throws IndexOutOfBoundsException, IllegalArgumentException {
    checkTown(one);
    checkTown(other);
    if (one == other || hours < 0 || hours > 9) {
      throw new IllegalArgumentException("no such road can be told");
    }
    roads.lay(one, other, hours);
    return roads.between(one, other);
  }

  public int band(int shape) throws IllegalArgumentException, IllegalStateException {
    if (shape < 1 || shape > 728 || sizeOf(shape) > MOST_PLACES) {
      throw new IllegalArgumentException("not the shape of a band");
    }
    if (bandCount >= MOST_BANDS) {
      throw new IllegalStateException("there are as many bands as there can be");
    }
    bands[bandCount].take(shape);
    bandCount++;
    return bandCount - 1;
  }

  public int ask(int band, int day, int town, int start, int length, int songs)
      throws IndexOutOfBoundsException, IllegalArgumentException, IllegalStateException {
    checkBand(band);
    checkTown(town);
    if (day < today || day > LAST_DAY || !areHours(start, length) || !isSetOfSongs(songs)) {
      throw new IllegalArgumentException("no such wedding can be asked for");
    }
    if (weddingCount >= MOST_WEDDINGS || isTaken(band, day)) {
      throw new IllegalStateException("there is no place for that wedding");
    }
    Wedding asked = weddings[weddingCount];
    asked.band = band;
    asked.day = day;
    asked.town = town;
    asked.start = start;
    asked.length = length;
    asked.promised = songs;
    asked.told = today;
    weddingCount++;
    return weddingCount - 1;
  }

  public int fix(int wedding) throws IndexOutOfBoundsException, IllegalStateException {
    checkWedding(wedding);
    if (!isFirst(wedding)) {
      throw new IllegalStateException("it is not the first in its queue");
    }
    surveyNow(wedding);
    if (found.count == 0) {
      throw new IllegalStateException("it has no filling");
    }
    loseQueueOf(wedding);
    Wedding fixed = weddings[wedding];
    fixed.state = FIXED;
    fixed.players = found.best;
    fixed.price = priceOf(found.cost);
    getPaid(fixed, fixed.price / 5);
    return fixed.price;
  }

  public int cancel(int wedding) throws IndexOutOfBoundsException, IllegalStateException {
    checkWedding(wedding);
    Wedding left = weddings[wedding];
    if (left.state != ASKED && left.state != FIXED) {
      throw new IllegalStateException("it is over");
    }
    int owed = 0;
    if (left.state == FIXED) {
      owed = owedFor(left);
      getPaid(left, Math.max(0, owed - left.paid));
    }
    left.state = LOST;
    return owed;
  }

  public int ill(int player, int day) throws IndexOutOfBoundsException, IllegalArgumentException {
    checkPlayer(player);
    checkDayToCome(day);
    int lost = stageWithout(player, day);
    offOn[day] |= 1 << player;
    for (int w = 0; w < weddingCount; w++) {
      Wedding hit = weddings[w];
      if (hit.day == day && hit.isFixedWith(player)) {
        putOnStage(hit, stage[w]);
      }
    }
    return lost;
  }

  public int late(int wedding, int minutes)
      throws IndexOutOfBoundsException, IllegalArgumentException, IllegalStateException {
    checkWedding(wedding);
    if (minutes < 0 || minutes > 240) {
      throw new IllegalArgumentException("nothing runs that late");
    }
    if (weddings[wedding].state != FIXED) {
      throw new IllegalStateException("it is not fixed");
    }
    weddings[wedding].late = minutes;
    return weddings[wedding].quarters();
  }

  public int pass(int days) throws IllegalArgumentException, IllegalStateException {
    if (days < 1 || days > 60) {
      throw new IllegalArgumentException("not so many days");
    }
    if (today + days > LAST_DAY) {
      throw new IllegalStateException("there is no such day");
    }
    for (int k = 0; k < days; k++) {
      endToday();
      today++;
      loseThoseWhoWaited();
    }
    return today;
  }

  // ---- what is asked

  public int ofPlayer(int player, int what) throws IndexOutOfBoundsException, IllegalArgumentException {
    checkPlayer(player);
    Player asked = players[player];
    switch (what) {
      case 0: return asked.instruments;
      case 1: return asked.known;
      case 2: return asked.home;
      case 3: return asked.fee;
      case 4: return asked.feuds;
      case 5: return asked.earned;
      case 6: return countFixedWith(player);
      case 7: return asked.played;
      case 8: return asked.hours;
      default: throw new IllegalArgumentException("nothing like that is known of a player");
    }
  }

  public int ofSong(int song, int what) throws IndexOutOfBoundsException, IllegalArgumentException {
    checkSong(song);
    Song asked = allSongs[song];
    switch (what) {
      case 0: return asked.key;
      case 1: return asked.energy;
      case 2: return asked.minutes;
      case 3: return asked.played;
      case 4: return shareOf(asked);
      case 5: return countKnowing(song);
      default: throw new IllegalArgumentException("nothing like that is known of a song");
    }
  }

  public int ofBand(int band, int what) throws IndexOutOfBoundsException, IllegalArgumentException {
    checkBand(band);
    if (what < 0 || what > 8) {
      throw new IllegalArgumentException("nothing like that is known of a band");
    }
    if (what < INSTRUMENTS) {
      return bands[band].needs[what];
    }
    if (what == 6) {
      return bands[band].size;
    }
    return countOfBand(band, what == 8);
  }

  public int ofWedding(int wedding, int what) throws IndexOutOfBoundsException, IllegalArgumentException {
    checkWedding(wedding);
    Wedding asked = weddings[wedding];
    switch (what) {
      case 0: return asked.band;
      case 1: return asked.day;
      case 2: return asked.town;
      case 3: return asked.start;
      case 4: return asked.length;
      case 5: return asked.promised;
      case 6: return asked.state;
      case 7: return asked.players;
      case 8: return asked.price;
      case 9: return asked.late;
      case 10: return asked.paid;
      case 11: return placeInQueue(wedding);
      case 12: return asked.quarters();
      default: throw new IllegalArgumentException("nothing like that is known of a wedding");
    }
  }

  public int drive(int one, int other) throws IndexOutOfBoundsException {
    checkTown(one);
    checkTown(other);
    return roads.between(one, other);
  }

  public boolean free(int player, int wedding) throws IndexOutOfBoundsException {
    checkPlayer(player);
    checkWedding(wedding);
    stageAsFixed();
    return isFreeFor(player, wedding);
  }

  public int filling(int wedding, int what) throws IndexOutOfBoundsException, IllegalArgumentException {
    checkWedding(wedding);
    if (what < 0 || what > 3) {
      throw new IllegalArgumentException("nothing like that is known of a filling");
    }
    surveyNow(wedding);
    switch (what) {
      case 0: return found.best;
      case 1: return found.cost;
      case 2: return found.count;
      default: return found.why;
    }
  }

  public int set(int players, boolean isMinutes) throws IllegalArgumentException {
    if (players < 0 || players >= 1 << playerCount) {
      throw new IllegalArgumentException("not a set of players");
    }
    bestSet.choose(allSongs, playableFor(players));
    return isMinutes ? bestSet.minutes : bestSet.length;
  }

  public String songs(int wedding) throws IndexOutOfBoundsException {
    checkWedding(wedding);
    bestSet.choose(allSongs, playableFor(weddings[wedding].players));
    if (bestSet.length == 0) {
      return "-";
    }
    StringBuilder text = new StringBuilder();
    for (int k = 0; k < bestSet.length; k++) {
      if (k > 0) {
        text.append(' ');
      }
      text.append(bestSet.row[k]);
    }
    return text.toString();
  }

  public int desk(int what) throws IllegalArgumentException {
    switch (what) {
      case 0: return today;
      case 1: return playerCount;
      case 2: return bandCount;
      case 3: return weddingCount;
      case 4: return countInState(ASKED);
      case 5: return countInState(FIXED);
      case 6: return countInState(PLAYED);
      case 7: return countInState(LOST);
      case 8: return cash;
      case 9: return countFeuds();
      case 10: return allEarned();
      case 11: return countDaysOff();
      case 12: return gapOfHours();
      default: throw new IllegalArgumentException("nothing like that is on the desk");
    }
  }

  public String tell(int wedding) throws IndexOutOfBoundsException {
    checkWedding(wedding);
    Wedding told = weddings[wedding];
    StringBuilder text = new StringBuilder();
    text.append(wedding).append(" on day ").append(told.day).append(" in ").append(told.town);
    text.append(", ").append(nameOfState(told.state));
    if (told.state == FIXED || told.state == PLAYED) {
      appendPlayers(text, told.players);
    }
    return text.toString();
  }

  // ---- what would be

  public int wouldLose(int player, int day) throws IndexOutOfBoundsException, IllegalArgumentException {
    checkPlayer(player);
    checkDayToCome(day);
    return stageWithout(player, day);
  }

  public int plan(int day, boolean isSet) throws IllegalArgumentException {
    if (day < 0 || day > LAST_DAY) {
      throw new IllegalArgumentException("not a day");
    }
    int candidates = firstOnesOf(day);
    int best = 0;
    int most = 0;
    for (int places = 1; places < 1 << Integer.bitCount(candidates); places++) {
      int chosen = membersAt(candidates, places);
      int together = stageAll(chosen);
      // The sets come by rising numbers, so of several with the same prices the smallest one stays.
      if (together > most) {
        most = together;
        best = chosen;
      }
    }
    return isSet ? best : most;
  }

  public int wouldCancel(int wedding) throws IndexOutOfBoundsException, IllegalStateException {
    checkWedding(wedding);
    Wedding fixed = weddings[wedding];
    if (fixed.state != FIXED) {
      throw new IllegalStateException("it is not fixed");
    }
    int ifCancelled = Math.max(0, owedFor(fixed) - fixed.paid);
    int ifPlayed = fixed.price - fixed.paid + extraOf(fixed) - allWagesAt(fixed);
    return ifCancelled - ifPlayed;
  }

  public int key(int wedding) throws IndexOutOfBoundsException {
    checkWedding(wedding);
    surveyNow(wedding);
    if (found.count == 0) {
      return NONE;
    }
    for (int p = 0; p < playerCount; p++) {
      if (has(found.inAll, p)) {
        return p;
      }
    }
    return NONE;
  }

  // ---- what holds

  public boolean isSound() {
    return areFixedOnesSound() && isCashSound() && areHoursSound() && areSharesSound();
  }

  public long digest() {
    long d = 58278;
    for (int what = 0; what <= 12; what++) {
      d = d * 31 + desk(what);
    }
    for (int p = 0; p < playerCount; p++) {
      for (int what = 0; what <= 8; what++) {
        d = d * 31 + ofPlayer(p, what);
      }
    }
    for (int s = 0; s < SONGS; s++) {
      for (int what = 0; what <= 5; what++) {
        d = d * 31 + ofSong(s, what);
      }
    }
    for (int b = 0; b < bandCount; b++) {
      for (int what = 0; what <= 8; what++) {
        d = d * 31 + ofBand(b, what);
      }
    }
    for (int w = 0; w < weddingCount; w++) {
      d = digestWedding(d, w);
    }
    d = d * 31 + set((1 << playerCount) - 1, true);
    d = d * 31 + drive(0, TOWNS - 1);
    return d * 31 + (isSound() ? 1 : 0);
  }

  private long digestWedding(long before, int w) {
    long d = before;
    for (int what = 0; what <= 12; what++) {
      d = d * 31 + ofWedding(w, what);
    }
    if (weddings[w].state == ASKED) {
      surveyNow(w);
      d = d * 31 + found.best;
      d = d * 31 + found.cost;
      d = d * 31 + found.count;
      d = d * 31 + found.why;
    }
    return d * 31 + set(weddings[w].players, false);
  }

  // ---- arguments

  private static boolean has(int set, int number) {
    return (set >> number & 1) != 0;
  }

  private static boolean isTown(int town) {
    return town >= 0 && town < TOWNS;
  }

  private static boolean isSetOfSongs(int songs) {
    return songs >= 0 && songs < 1 << SONGS;
  }

  private static boolean areHours(int start, int length) {
    return start >= 10 && start <= 22 && length >= 1 && length <= 6 && start + length <= MIDNIGHT;
  }

  private static void checkTown(int town) {
    if (!isTown(town)) {
      throw new IndexOutOfBoundsException("no such town");
    }
  }

  private static void checkSong(int song) {
    if (song < 0 || song >= SONGS) {
      throw new IndexOutOfBoundsException("no such song");
    }
  }

  private void checkPlayer(int player) {
    if (player < 0 || player >= playerCount) {
      throw new IndexOutOfBoundsException("no such player");
    }
  }

  private void checkBand(int band) {
    if (band < 0 || band >= bandCount) {
      throw new IndexOutOfBoundsException("no such band");
    }
  }

  private void checkWedding(int wedding) {
    if (wedding < 0 || wedding >= weddingCount) {
      throw new IndexOutOfBoundsException("no such wedding");
    }
  }

  private void checkDayToCome(int day) {
    if (day < today || day > LAST_DAY) {
      throw new IllegalArgumentException("not a day to come");
    }
  }

  private static int sizeOf(int shape) {
    int size = 0;
    int rest = shape;
    for (int k = 0; k < INSTRUMENTS; k++) {
      size += rest % 3;
      rest /= 3;
    }
    return size;
  }

  // ---- queues

  private boolean isTaken(int band, int day) {
    for (int w = 0; w < weddingCount; w++) {
      Wedding other = weddings[w];
      if (other.state == FIXED && other.band == band && other.day == day) {
        return true;
      }
    }
    return false;
  }

  private boolean areInOneQueue(int one, int other) {
    Wedding a = weddings[one];
    Wedding b = weddings[other];
    return a.state == ASKED && b.state == ASKED && a.band == b.band && a.day == b.day;
  }

  private int placeInQueue(int wedding) {
    if (weddings[wedding].state != ASKED) {
      return NONE;
    }
    int ahead = 0;
    for (int w = 0; w < wedding; w++) {
      if (areInOneQueue(w, wedding)) {
        ahead++;
      }
    }
    return ahead;
  }

  private boolean isFirst(int wedding) {
    return placeInQueue(wedding) == 0;
  }

  private void loseQueueOf(int wedding) {
    for (int w = 0; w < weddingCount; w++) {
      if (w != wedding && areInOneQueue(w, wedding)) {
        weddings[w].state = LOST;
      }
    }
  }

  private int firstOnesOf(int day) {
    int set = 0;
    for (int w = 0; w < weddingCount; w++) {
      if (weddings[w].day == day && isFirst(w) && Integer.bitCount(set) < MOST_PLANNED) {
        set |= 1 << w;
      }
    }
    return set;
  }

  /** The members of a set that stand at some places in it, which are counted from 0 on. */
  private static int membersAt(int set, int places) {
    int chosen = 0;
    int place = 0;
    for (int k = 0; k < MOST_WEDDINGS; k++) {
      if (has(set, k)) {
        chosen |= has(places, place) ? 1 << k : 0;
        place++;
      }
    }
    return chosen;
  }

  // ---- days

  private void endToday() {
    for (int w = 0; w < weddingCount; w++) {
      if (weddings[w].day == today && weddings[w].state == FIXED) {
        playOut(weddings[w]);
      }
    }
    for (int w = 0; w < weddingCount; w++) {
      if (weddings[w].day == today && weddings[w].state == ASKED) {
        weddings[w].state = LOST;
      }
    }
  }

  private void loseThoseWhoWaited() {
    for (int w = 0; w < weddingCount; w++) {
      if (weddings[w].state == ASKED && weddings[w].told + DAYS_TO_WAIT <= today) {
        weddings[w].state = LOST;
      }
    }
  }

  private void playOut(Wedding wedding) {
    getPaid(wedding, wedding.price - wedding.paid + extraOf(wedding));
    for (int p = 0; p < playerCount; p++) {
      if (has(wedding.players, p)) {
        int wage = wageAt(players[p], wedding);
        cash -= wage;
        players[p].earned += wage;
        players[p].played++;
        players[p].hours += wedding.length;
      }
    }
    bestSet.choose(allSongs, playableFor(wedding.players));
    for (int k = 0; k < bestSet.length; k++) {
      allSongs[bestSet.row[k]].played++;
    }
    wedding.state = PLAYED;
  }

  // ---- money

  private static int priceOf(int cost) {
    return cost * 6 / 5 + 50;
  }

  private void getPaid(Wedding wedding, int amount) {
    wedding.paid += amount;
    cash += amount;
  }

  private int owedFor(Wedding wedding) {
    int ahead = wedding.day - today;
    int hundredths = ahead >= 30 ? 20 : ahead >= 14 ? 40 : ahead >= 7 ? 70 : 100;
    return wedding.price * hundredths / 100;
  }

  private int extraOf(Wedding wedding) {
    int fees = 0;
    for (int p = 0; p < playerCount; p++) {
      if (has(wedding.players, p)) {
        fees += players[p].fee;
      }
    }
    return wedding.quarters() * fees / 4;
  }

  private int costAt(Player player, Wedding wedding) {
    int way = roads.between(player.home, wedding.town);
    return player.fee * wedding.length + 10 * Math.max(0, way);
  }

  private int wageAt(Player player, Wedding wedding) {
    return costAt(player, wedding) + wedding.quarters() * player.fee / 4;
  }

  private int allWagesAt(Wedding wedding) {
    int wages = 0;
    for (int p = 0; p < playerCount; p++) {
      if (has(wedding.players, p)) {
        wages += wageAt(players[p], wedding);
      }
    }
    return wages;
  }

  // ---- who is on stage

  private void stageAsFixed() {
    for (int w = 0; w < weddingCount; w++) {
      stage[w] = weddings[w].state == FIXED ? weddings[w].players : 0;
    }
  }

  /** Fills anew on stage what the player would play; says how many have no filling then. */
  private int stageWithout(int player, int day) {
    int lost = 0;
    stageAsFixed();
    for (int w = 0; w < weddingCount; w++) {
      if (weddings[w].day == day && has(stage[w], player)) {
        survey(w, freeFor(w) & ~(1 << player), stage[w]);
        stage[w] = found.count == 0 ? 0 : found.best;
        lost += found.count == 0 ? 1 : 0;
      }
    }
    return lost;
  }

  /** Fixes the chosen weddings on stage; says their prices together, NONE if one can't be fixed. */
  private int stageAll(int chosen) {
    int together = 0;
    stageAsFixed();
    for (int w = 0; w < weddingCount; w++) {
      if (has(chosen, w)) {
        survey(w, freeFor(w), 0);
        if (found.count == 0) {
          return NONE;
        }
        stage[w] = found.best;
        together += priceOf(found.cost);
      }
    }
    return together;
  }

  private void putOnStage(Wedding wedding, int newPlayers) {
    if (newPlayers != 0) {
      wedding.players = newPlayers;
      return;
    }
    wedding.state = LOST;
    getPaid(wedding, -(wedding.price / 5) - wedding.price / 10);
  }

  private int freeFor(int wedding) {
    int set = 0;
    for (int p = 0; p < playerCount; p++) {
      if (isFreeFor(p, wedding)) {
        set |= 1 << p;
      }
    }
    return set;
  }

  private boolean isFreeFor(int player, int wedding) {
    Wedding wanted = weddings[wedding];
    if (has(offOn[wanted.day], player) || roads.between(players[player].home, wanted.town) == NONE) {
      return false;
    }
    for (int w = 0; w < weddingCount; w++) {
      boolean isOther = w != wedding && weddings[w].day == wanted.day && has(stage[w], player);
      if (isOther && !leaveTime(Math.min(w, wedding), Math.max(w, wedding))) {
        return false;
      }
    }
    return true;
  }

  /** Whether one player can play both; the number of one is the smaller. */
  private boolean leaveTime(int one, int other) {
    boolean isOtherEarlier = weddings[other].start < weddings[one].start;
    Wedding earlier = weddings[isOtherEarlier ? other : one];
    Wedding later = weddings[isOtherEarlier ? one : other];
    int way = roads.between(earlier.town, later.town);
    return way != NONE && earlier.start + earlier.length + way <= later.start;
  }

  // ---- fillings

  private void surveyNow(int wedding) {
    stageAsFixed();
    survey(wedding, freeFor(wedding), 0);
  }

  /** Finds the fillings by those who are free; the more of the players in had one keeps, the better. */
  private void survey(int wedding, int free, int had) {
    Wedding wanted = weddings[wedding];
    int size = bands[wanted.band].size;
    boolean isSeated = false;
    boolean isPlayable = false;
    found.clear();
    seatAll(bands[wanted.band]);
    for (int set = 1; set < 1 << playerCount; set++) {
      if ((set & ~free) == 0 && seated[set] && Integer.bitCount(set) == size) {
        isSeated = true;
        if ((wanted.promised & ~playableFor(set)) == 0) {
          isPlayable = true;
          if (!hasFeud(set)) {
            found.add(set, costOfAll(set, wanted), Integer.bitCount(set & had));
          }
        }
      }
    }
    if (found.count > 0) {
      found.why = WHY_THERE_IS_ONE;
    } else if (Integer.bitCount(free) < size) {
      found.why = WHY_TOO_FEW;
    } else if (!isSeated) {
      found.why = WHY_INSTRUMENTS;
    } else {
      found.why = isPlayable ? WHY_FEUDS : WHY_SONGS;
    }
  }

  /** Marks each set that can take the band's first places, as many as it has players. */
  private void seatAll(Band band) {
    seated[0] = true;
    for (int set = 1; set < 1 << playerCount; set++) {
      seated[set] = canBeSeated(set, band);
    }
  }

  private boolean canBeSeated(int set, Band band) {
    int last = Integer.bitCount(set) - 1;
    if (last < 0 || last >= band.size) {
      return false;
    }
    // One of them takes the last place; whether the others can take those ahead is marked already.
    for (int p = 0; p < playerCount; p++) {
      if (has(set, p) && has(players[p].instruments, band.places[last]) && seated[set & ~(1 << p)]) {
        return true;
      }
    }
    return false;
  }

  private boolean hasFeud(int set) {
    for (int p = 0; p < playerCount; p++) {
      if (has(set, p) && (players[p].feuds & set) != 0) {
        return true;
      }
    }
    return false;
  }

  private int costOfAll(int set, Wedding wedding) {
    int cost = 0;
    for (int p = 0; p < playerCount; p++) {
      if (has(set, p)) {
        cost += costAt(players[p], wedding);
      }
    }
    return cost;
  }

  private int playableFor(int set) {
    int byOne = 0;
    int byTwo = 0;
    for (int p = 0; p < playerCount; p++) {
      if (has(set, p)) {
        byTwo |= byOne & players[p].known;
        byOne |= players[p].known;
      }
    }
    return Integer.bitCount(set) == 1 ? byOne : byTwo;
  }

  // ---- counts

  private int countFixedWith(int player) {
    int count = 0;
    for (int w = 0; w < weddingCount; w++) {
      if (weddings[w].isFixedWith(player)) {
        count++;
      }
    }
    return count;
  }

  private int countKnowing(int song) {
    int count = 0;
    for (int p = 0; p < playerCount; p++) {
      if (has(players[p].known, song)) {
        count++;
      }
    }
    return count;
  }

  private int countOfBand(int band, boolean isPlayedOnly) {
    int count = 0;
    for (int w = 0; w < weddingCount; w++) {
      if (weddings[w].band == band && (!isPlayedOnly || weddings[w].state == PLAYED)) {
        count++;
      }
    }
    return count;
  }

  private int countInState(int state) {
    int count = 0;
    for (int w = 0; w < weddingCount; w++) {
      if (weddings[w].state == state) {
        count++;
      }
    }
    return count;
  }

  private int countFeuds() {
    int ends = 0;
    for (int p = 0; p < playerCount; p++) {
      ends += Integer.bitCount(players[p].feuds);
    }
    return ends / 2;
  }

  private int countDaysOff() {
    int count = 0;
    for (int day = 0; day <= LAST_DAY; day++) {
      count += Integer.bitCount(offOn[day]);
    }
    return count;
  }

  private int allEarned() {
    int earned = 0;
    for (int p = 0; p < playerCount; p++) {
      earned += players[p].earned;
    }
    return earned;
  }

  private int gapOfHours() {
    int most = 0;
    int least = playerCount == 0 ? 0 : players[0].hours;
    for (int p = 0; p < playerCount; p++) {
      most = Math.max(most, players[p].hours);
      least = Math.min(least, players[p].hours);
    }
    return most - least;
  }

  private int shareOf(Song song) {
    int all = 0;
    for (int s = 0; s < SONGS; s++) {
      all += allSongs[s].minutes * allSongs[s].played;
    }
    return all == 0 ? 0 : song.minutes * song.played * 1000 / all;
  }

  // ---- texts

  private static String nameOfState(int state) {
    switch (state) {
      case ASKED: return "asked";
      case FIXED: return "fixed";
      case PLAYED: return "played";
      default: return "lost";
    }
  }

  private void appendPlayers(StringBuilder text, int set) {
    boolean isFirstOne = true;
    for (int p = 0; p < playerCount; p++) {
      if (has(set, p)) {
        text.append(isFirstOne ? ": " : ",").append(p);
        isFirstOne = false;
      }
    }
  }

  // ---- soundness

  private boolean areFixedOnesSound() {
    for (int w = 0; w < weddingCount; w++) {
      if (weddings[w].state == FIXED && !isFixedOneSound(w)) {
        return false;
      }
    }
    return true;
  }

  private boolean isFixedOneSound(int wedding) {
    Wedding fixed = weddings[wedding];
    if (Integer.bitCount(fixed.players) != bands[fixed.band].size) {
      return false;
    }
    for (int w = 0; w < wedding; w++) {
      Wedding other = weddings[w];
      if (other.state == FIXED && other.band == fixed.band && other.day == fixed.day) {
        return false;
      }
    }
    return true;
  }

  private boolean isCashSound() {
    int paid = 0;
    for (int w = 0; w < weddingCount; w++) {
      paid += weddings[w].paid;
    }
    return cash == paid - allEarned();
  }

  private boolean areHoursSound() {
    int hours = 0;
    for (int p = 0; p < playerCount; p++) {
      hours += players[p].hours;
    }
    for (int w = 0; w < weddingCount; w++) {
      if (weddings[w].state == PLAYED) {
        hours -= weddings[w].length * Integer.bitCount(weddings[w].players);
      }
    }
    return hours == 0;
  }

  private boolean areSharesSound() {
    int shares = 0;
    for (int s = 0; s < SONGS; s++) {
      shares += shareOf(allSongs[s]);
    }
    return shares <= 1000;
  }

  // ---- rows

  private static final class Player {
    int instruments = 0;
    int known = 0;
    int home = 0;
    int fee = 0;
    int feuds = 0;
    int earned = 0;
    int played = 0;
    int hours = 0;
  }

  private static final class Song {
    int key;
    int energy = 5;
    int minutes = 3;
    int played = 0;

    Song(int firstKey) {
      key = firstKey;
    }

    boolean fitsBeside(Song other) {
      int apart = Math.abs(key - other.key);
      return apart <= 2 || apart >= KEYS - 2;
    }
  }

  private static final class Band {
    final int[] needs = new int[INSTRUMENTS];
    final int[] places = new int[MOST_PLACES];
    int size = 0;

    void take(int shape) {
      int rest = shape;
      for (int k = 0; k < INSTRUMENTS; k++) {
        needs[k] = rest % 3;
        rest /= 3;
        for (int n = 0; n < needs[k] && size < MOST_PLACES; n++) {
          places[size] = k;
          size++;
        }
      }
    }
  }

  private static final class Wedding {
    int band = 0;
    int day = 0;
    int town = 0;
    int start = 0;
    int length = 0;
    int promised = 0;
    int told = 0;
    int state = ASKED;
    int players = 0;
    int price = 0;
    int late = 0;
    int paid = 0;

    boolean isFixedWith(int player) {
      return state == FIXED && has(players, player);
    }

    int quarters() {
      int counted = Math.min(late, (MIDNIGHT - start - length) * 60);
      return (counted + 14) / 15;
    }
  }

  private static final class Roads {
    final int[][] hours = new int[TOWNS][TOWNS];
    final int[][] ways = new int[TOWNS][TOWNS];

    Roads() {
      for (int a = 0; a < TOWNS; a++) {
        for (int b = 0; b < TOWNS; b++) {
          ways[a][b] = a == b ? 0 : NONE;
        }
      }
    }

    int between(int one, int other) {
      return ways[one][other];
    }

    void lay(int one, int other, int newHours) {
      hours[one][other] = newHours;
      hours[other][one] = newHours;
      for (int a = 0; a < TOWNS; a++) {
        for (int b = 0; b < TOWNS; b++) {
          ways[a][b] = a == b ? 0 : hours[a][b] == 0 ? NONE : hours[a][b];
        }
      }
      for (int over = 0; over < TOWNS; over++) {
        shortenOver(over);
      }
    }

    void shortenOver(int over) {
      for (int a = 0; a < TOWNS; a++) {
        for (int b = 0; b < TOWNS; b++) {
          if (ways[a][over] != NONE && ways[over][b] != NONE) {
            int way = ways[a][over] + ways[over][b];
            ways[a][b] = ways[a][b] == NONE ? way : Math.min(ways[a][b], way);
          }
        }
      }
    }
  }

  /** What is found of the fillings of one wedding. */
  private static final class Fillings {
    int best = NONE;
    int cost = NONE;
    int kept = 0;
    int count = 0;
    int inAll = 0;
    int why = 0;

    void clear() {
      best = NONE;
      cost = NONE;
      kept = 0;
      count = 0;
      inAll = NONE;
      why = 0;
    }

    /** The sets come by rising numbers, so a later one has to be better, not as good. */
    void add(int set, int itsCost, int itsKept) {
      if (count == 0 || itsKept > kept || (itsKept == kept && itsCost < cost)) {
        best = set;
        cost = itsCost;
        kept = itsKept;
      }
      count++;
      inAll &= set;
    }
  }

  /** The best set of some songs. */
  private static final class BestSet {
    final int[] row = new int[SONGS];
    int length = 0;
    int minutes = 0;
    final int[] order = new int[SONGS];
    final int[] longest = new int[SONGS];
    final int[] next = new int[SONGS];
    int orderLength = 0;

    void choose(Song[] songs, int playable) {
      sort(songs, playable);
      // From the end on: the best row that begins with a song goes on with the best one that fits behind it.
      for (int at = orderLength - 1; at >= 0; at--) {
        Song song = songs[order[at]];
        next[at] = NONE;
        for (int k = at + 1; k < orderLength; k++) {
          if (song.fitsBeside(songs[order[k]])) {
            next[at] = betterStart(k, next[at]);
          }
        }
        longest[at] = song.minutes + (next[at] == NONE ? 0 : longest[next[at]]);
      }
      int first = NONE;
      for (int k = 0; k < orderLength; k++) {
        first = betterStart(k, first);
      }
      minutes = first == NONE ? 0 : longest[first];
      follow(first);
    }

    /** Puts the songs in the only order in which a row can have them: by energy, then by number. */
    private void sort(Song[] songs, int playable) {
      orderLength = 0;
      for (int energy = 0; energy < ENERGIES; energy++) {
        for (int s = 0; s < SONGS; s++) {
          if (has(playable, s) && songs[s].energy == energy && orderLength < SONGS) {
            order[orderLength] = s;
            orderLength++;
          }
        }
      }
    }

    private int betterStart(int one, int other) {
      if (other == NONE || longest[one] > longest[other]) {
        return one;
      }
      return longest[one] == longest[other] && order[one] < order[other] ? one : other;
    }

    private void follow(int first) {
      length = 0;
      int at = first;
      while (at != NONE && length < SONGS) {
        row[length] = order[at];
        length++;
        at = next[at];
      }
    }
  }
}
