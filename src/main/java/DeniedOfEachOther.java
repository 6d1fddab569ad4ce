/** A town in whose book stands only what two who live deny of each other. */
public final class DeniedOfEachOther {
  private static final int CITIZENS = 6;
  private static final int TOPICS = 8;
  private static final int WORDS = 3;
  private static final int KINDS = 6;
  private static final int FIGURES = 10;
  private static final int OLDEST = 99;
  private static final int LAST_YEAR = 999;
  private static final int MOST_YEARS = 60;
  private static final int MOST_WINTERS = 7;
  private static final int MOST_LETTERS = 96;
  private static final int MOST_IN_ROW = 16;
  private static final int GREATEST_IN_ROW = 99;
  private static final int WITHOUT_SIGN = 0x7fffffff;

  private static final int NOTHING = 0;
  private static final int YES = 1;
  private static final int NO = 2;

  private static final int KIND_CITIZEN = 0;
  private static final int KIND_HIRED = 1;
  private static final int KIND_WIDOW = 2;
  private static final int KIND_FOOL = 3;
  private static final int KIND_LIAR = 4;
  private static final int KIND_KING = 5;
  private static final String KIND_LETTERS = "chwflk";
  /** LIFE of each KIND ahead of the FIGURE that comes to it. */
  private static final int[] LIFE = {60, 50, 80, 60, 65, 85};

  private static final int NONE = -9;
  private static final int NOBODY = -1;
  private static final int OTHER = -2;
  private static final int STATE = -3;
  private static final int BELOW = -4;
  private static final int ROOM = -6;
  private static final long REFUSED_LONG = 4000000000000000000L;

  private final Town now;
  /** What is tried out in thought; every call that uses it fills it anew. */
  private final Town mind;
  private final Town taken;
  private boolean isTaken;
  private final Letters letters;
  private final int[] row;
  private int rowSize;
  private final int[] refusals;
  /** PAIRS of each set of citizens, filled anew by each call that asks. */
  private final int[] pairsOf;

  public DeniedOfEachOther() {
    now = new Town();
    mind = new Town();
    taken = new Town();
    isTaken = false;
    letters = new Letters();
    row = new int[MOST_IN_ROW];
    rowSize = 0;
    refusals = new int[7];
    pairsOf = new int[1 << CITIZENS];
  }

  // ---- the town as it is told and changed

  public int letter(int c) {
    if (c < 0) return refuse(BELOW);
    if (c > 255 || letters.size >= MOST_LETTERS) return refuse(ROOM);
    return letters.append(c);
  }

  public int town() {
    int told = letters.spelling();
    int at = 0;
    // Told to the mind, so that a FAULT leaves the town as it was.
    mind.become(now);
    for (int i = 0; i < MOST_LETTERS && told >= 0 && at < letters.size; i++) {
      if (letters.tellStatement(at, mind)) {
        told++;
        at = letters.behindStatement(at);
      } else {
        told = -2000 - at;
      }
    }
    letters.size = 0;
    if (told > 0) now.become(mind);
    return told;
  }

  public int citizen(int citizen, int what) {
    if (noCitizen(citizen)) return refuse(NOBODY);
    switch (what) {
      case 0: return now.kind[citizen];
      case 1: return now.figure[citizen];
      case 2: return now.age[citizen];
      case 3: return now.isLiving(citizen) ? 0 : 1;
      case 4: return now.lifeOf(citizen);
      case 5: return now.topicsOf(citizen);
      default: return refuse(OTHER);
    }
  }

  public int word(int citizen, int topic) {
    if (noCitizen(citizen) || noTopic(topic)) return refuse(NOBODY);
    return now.wordOf(citizen, topic);
  }

  public int written() {
    return now.book();
  }

  public int says(int citizen, int topic, int word) {
    if (noCitizen(citizen) || noTopic(topic)) return refuse(NOBODY);
    if (word < 0 || word >= WORDS) return refuse(OTHER);
    if (!now.isLiving(citizen)) return refuse(STATE);
    int before = now.wordOf(citizen, topic);
    now.put(citizen, topic, word);
    return before;
  }

  public int ages(int citizen, int v) {
    if (noCitizen(citizen)) return refuse(NOBODY);
    if (v < 0) return refuse(BELOW);
    if (v > OLDEST) return refuse(ROOM);
    int before = now.age[citizen];
    now.age[citizen] = v;
    return before;
  }

  public int dies(int citizen) {
    if (noCitizen(citizen)) return refuse(NOBODY);
    if (!now.bury(citizen)) return refuse(STATE);
    return now.howManyLive();
  }

  public int turn(int citizen, int kind, int figure) {
    if (noCitizen(citizen)) return refuse(NOBODY);
    if (kind < 0 || kind >= KINDS) return refuse(OTHER);
    if (figure < 0) return refuse(BELOW);
    if (figure >= FIGURES) return refuse(ROOM);
    int before = 10 * now.kind[citizen] + now.figure[citizen];
    now.kind[citizen] = kind;
    now.figure[citizen] = figure;
    return before;
  }

  public int years(int n) {
    if (n < 1) return refuse(BELOW);
    if (!now.spend(n)) return refuse(ROOM);
    return now.bookSize();
  }

  // ---- what is so behind some years, in thought

  public int writtenThen(int n) {
    if (n < 0) return refuse(BELOW);
    if (n > MOST_YEARS) return refuse(ROOM);
    mind.become(now);
    mind.pass(n);
    return mind.book();
  }

  public int wordThen(int citizen, int topic, int n) {
    if (noCitizen(citizen) || noTopic(topic)) return refuse(NOBODY);
    if (n < 0) return refuse(BELOW);
    if (n > MOST_YEARS) return refuse(ROOM);
    mind.become(now);
    mind.passFor(topic, n);
    return mind.wordOf(citizen, topic);
  }

  public int deadThen(int n) {
    if (n < 0) return refuse(BELOW);
    if (n > MOST_YEARS) return refuse(ROOM);
    mind.become(now);
    mind.pass(n);
    return mind.everybody() & ~mind.living;
  }

  public int lasts(int topic) {
    if (noTopic(topic)) return refuse(NOBODY);
    mind.become(now);
    int end = mind.endOf(topic);
    return end > MOST_YEARS ? NONE : end;
  }

  public int lost(int what) {
    if (what < 0 || what > 1) return refuse(OTHER);
    mind.become(now);
    int atFirst = now.book();
    for (int n = 1; n <= MOST_YEARS; n++) {
      mind.pass(1);
      int gone = atFirst & ~mind.book();
      if (gone != 0) return what == 0 ? Integer.numberOfTrailingZeros(gone) : n;
    }
    return NONE;
  }

  public int still(int what) {
    if (what < 0 || what > 1) return refuse(OTHER);
    mind.become(now);
    for (int n = 0; n <= MOST_YEARS; n++) {
      if (what == 1 && mind.book() == 0) return n;
      boolean changed = mind.passOne(0, TOPICS);
      if (what == 0 && !changed) return n;
    }
    return NONE;
  }

  // ---- the book as it is now

  public int chapter(int citizen) {
    if (citizen == -1) return largestChapter();
    if (noCitizen(citizen)) return refuse(NOBODY);
    return now.chapterOf(citizen);
  }

  public int quarrel(int topic) {
    if (noTopic(topic)) return refuse(NOBODY);
    int longest = NONE;
    int best = NONE;
    for (int a = 0; a < now.size; a++) {
      for (int b = 0; b < now.size; b++) {
        if (a == b || !now.isLiving(a) || !now.isLiving(b)) continue;
        int end = endOfQuarrel(a, b, topic);
        if (end > longest) {
          longest = end;
          best = 10 * a + b;
        }
      }
    }
    return best;
  }

  public int keeps() {
    if (now.howManyLive() < 2) return NONE;
    int changes = 0;
    for (int t = 0; t < TOPICS; t++) {
      if (now.livingYes(t) == 0) changes++;
      if (now.livingNo(t) == 0) changes++;
    }
    return changes;
  }

  public int silent(int what) {
    if (what < 0 || what > 1) return refuse(OTHER);
    int bits = 0;
    for (int t = 0; t < TOPICS; t++) {
      boolean some = (now.livingYes(t) | now.livingNo(t)) != 0;
      boolean asked = what == 0 ? !some : some && !now.isWritten(t);
      if (asked) bits |= 1 << t;
    }
    return bits;
  }

  public int lives(int n, int what) {
    if (n < 0) return refuse(BELOW);
    if (n > MOST_YEARS) return refuse(ROOM);
    if (what < 0 || what > 1) return refuse(OTHER);
    int who = NONE;
    int fewest = NONE;
    for (int i = 0; i < now.size; i++) {
      if (!now.isLiving(i)) continue;
      mind.become(now);
      mind.bury(i);
      mind.pass(n);
      int left = mind.bookSize();
      if (who == NONE || left < fewest) {
        who = i;
        fewest = left;
      }
    }
    return what == 0 ? who : fewest;
  }

  public int heir(int n) {
    if (n < 0) return refuse(BELOW);
    if (n > MOST_YEARS) return refuse(ROOM);
    mind.become(now);
    mind.pass(n);
    int most = mind.bookSize();
    int who = NONE;
    for (int i = 0; i < now.size; i++) {
      if (!now.isLiving(i)) continue;
      mind.become(now);
      mind.kind[i] = KIND_WIDOW;
      mind.pass(n);
      if (mind.bookSize() > most) {
        most = mind.bookSize();
        who = i;
      }
    }
    return who;
  }

  public int so(int topic) {
    if (topic == -1) return fewestAgainstMost();
    if (noTopic(topic)) return refuse(NOBODY);
    int yes = Integer.bitCount(now.livingYes(topic));
    int no = Integer.bitCount(now.livingNo(topic));
    if (yes + no == 0) return NOTHING;
    return yes >= no ? YES : NO;
  }

  public int leastLiars() {
    int best = now.living;
    for (int liars = 0; liars < now.living; liars++) {
      if ((liars & ~now.living) != 0 || Integer.bitCount(liars) >= Integer.bitCount(best)) continue;
      if (isEmptyWithout(liars)) best = liars;
    }
    return best;
  }

  public int differ(int what) {
    if (what < 0 || what > 2) return refuse(OTHER);
    if (what == 2) return mostPairs();
    int two = NONE;
    int most = NONE;
    for (int a = 0; a < now.size; a++) {
      for (int b = a + 1; b < now.size; b++) {
        if (!now.isLiving(a) || !now.isLiving(b)) continue;
        int topics = now.denials(a, b);
        if (topics > most) {
          most = topics;
          two = 10 * a + b;
        }
      }
    }
    return what == 0 ? two : most;
  }

  public int friends(int citizen) {
    if (noCitizen(citizen)) return refuse(NOBODY);
    if (!now.isLiving(citizen)) return refuse(STATE);
    int bits = 0;
    for (int i = 0; i < now.size; i++) {
      if (i != citizen && now.isLiving(i) && now.denials(citizen, i) == 0) bits |= 1 << i;
    }
    return bits;
  }

  public int gives() {
    return fewestAgainstMost();
  }

  // ---- games, odds, rows and lots

  public int two(int a, int b, int topic, int n) {
    if (noCitizen(a) || noCitizen(b) || a == b || noTopic(topic)) return refuse(NOBODY);
    if (n < 0) return refuse(BELOW);
    if (n > MOST_YEARS) return refuse(ROOM);
    if (!now.isLiving(a) || !now.isLiving(b)) return refuse(STATE);
    for (int first = 0; first <= 1; first++) {
      for (int other = 0; other <= 1; other++) {
        imagineTwo(a, first, b, other, topic, n);
        int firstHas = mind.chapterOf(a);
        int otherHas = mind.chapterOf(b);
        imagineTwo(a, 1 - first, b, other, topic, n);
        if (mind.chapterOf(a) > firstHas) continue;
        imagineTwo(a, first, b, 1 - other, topic, n);
        if (mind.chapterOf(b) > otherHas) continue;
        return 10 * first + other;
      }
    }
    return NONE;
  }

  public long winter(int topic, int n, int t, int part) {
    if (noTopic(topic)) return refuseLong(NOBODY);
    if (n < 0 || t < 2) return refuseLong(BELOW);
    if (n > MOST_WINTERS || t > 20) return refuseLong(ROOM);
    if (part < 0 || part > 1) return refuseLong(OTHER);
    long likely = 0;
    for (int cold = 0; cold < (1 << n); cold++) likely += weightIfWritten(topic, n, t, cold);
    long all = 1;
    for (int i = 0; i < n; i++) all *= t;
    return leastTerms(likely, all, part);
  }

  public long mean(int part) {
    if (part < 0 || part > 1) return refuseLong(OTHER);
    return leastTerms(now.agesOfLiving(), now.howManyLive(), part);
  }

  public int whatIs(int citizen, int topic, int what) {
    if (noCitizen(citizen) || noTopic(topic)) return refuse(NOBODY);
    if (what < 0 || what > 1) return refuse(OTHER);
    int bits = 0;
    int choices = what == 0 ? KINDS : FIGURES;
    for (int v = 0; v < choices; v++) {
      mind.become(now);
      if (what == 0) mind.kind[citizen] = v;
      else mind.figure[citizen] = v;
      if (mindSaysRow(citizen, topic)) bits |= 1 << v;
    }
    return bits;
  }

  public int row(int v) {
    if (v < 0) return refuse(BELOW);
    if (v > GREATEST_IN_ROW || rowSize >= MOST_IN_ROW) return refuse(ROOM);
    row[rowSize] = v;
    rowSize++;
    return rowSize;
  }

  public int judge() {
    int size = clear();
    mind.become(now);
    for (int i = 0; i < size; i++) {
      if (mind.bookSize() != row[i]) return i;
      mind.pass(1);
    }
    return NONE;
  }

  public int clear() {
    int had = rowSize;
    rowSize = 0;
    return had;
  }

  public int lots(int n, int z, int what) {
    if (n < 1) return refuse(BELOW);
    if (n > 20) return refuse(ROOM);
    if (what < 0 || what > 1) return refuse(OTHER);
    int sum = 0;
    int seed = z;
    for (int i = 0; i < n; i++) {
      mind.become(now);
      seed = mind.drawWords(seed);
      mind.pass(10);
      sum += what == 0 ? mind.bookSize() : mind.howManyLive();
    }
    return sum;
  }

  // ---- the image and the counts

  public int image() {
    taken.become(now);
    isTaken = true;
    return now.year;
  }

  public int on() {
    if (!isTaken) return refuse(STATE);
    now.become(taken);
    return now.year;
  }

  public int count(int what) {
    if (what >= 11 && what <= 16) return refusals[what - 10];
    switch (what) {
      case 0: return now.size;
      case 1: return now.year;
      case 2: return now.howManyLive();
      case 3: return now.bookSize();
      case 4: return now.wordsOfLiving();
      case 5: return now.agesOfLiving();
      case 6: return rowSize;
      case 7: return letters.size;
      default: return NONE;
    }
  }

  // ---- refusals

  private int refuse(int number) {
    int at = -number;
    if (at >= 1 && at < refusals.length) refusals[at]++;
    return number;
  }

  private long refuseLong(int number) {
    return REFUSED_LONG - refuse(number);
  }

  private boolean noCitizen(int i) {
    return i < 0 || i >= now.size;
  }

  private static boolean noTopic(int t) {
    return t < 0 || t >= TOPICS;
  }

  // ---- what the public calls are made of

  private int largestChapter() {
    int who = NONE;
    int most = NONE;
    for (int i = 0; i < now.size; i++) {
      if (now.isLiving(i) && now.chapterOf(i) > most) {
        most = now.chapterOf(i);
        who = i;
      }
    }
    return who;
  }

  private int endOfQuarrel(int a, int b, int topic) {
    mind.become(now);
    mind.put(a, topic, YES);
    mind.put(b, topic, NO);
    return mind.endOf(topic);
  }

  /** Of every TOPIC the smaller side: it is false by SO, and it is what GIVES takes back. */
  private int fewestAgainstMost() {
    int words = 0;
    for (int t = 0; t < TOPICS; t++) {
      words += Math.min(Integer.bitCount(now.livingYes(t)), Integer.bitCount(now.livingNo(t)));
    }
    return words;
  }

  private boolean isEmptyWithout(int liars) {
    for (int t = 0; t < TOPICS; t++) {
      if ((now.livingYes(t) & ~liars) != 0 && (now.livingNo(t) & ~liars) != 0) return false;
    }
    return true;
  }

  /** Sets with fewer citizens have smaller bits, so they are answered already. */
  private int mostPairs() {
    pairsOf[0] = 0;
    for (int set = 1; set < pairsOf.length; set++) {
      int low = Integer.numberOfTrailingZeros(set);
      int rest = set & (set - 1);
      int most = pairsOf[rest];
      for (int b = low + 1; b < CITIZENS; b++) {
        if ((rest >> b & 1) == 0 || now.denials(low, b) == 0) continue;
        most = Math.max(most, 1 + pairsOf[rest & ~(1 << b)]);
      }
      pairsOf[set] = most;
    }
    return pairsOf[now.living];
  }

  private void imagineTwo(int a, int first, int b, int other, int topic, int n) {
    mind.become(now);
    if (first == 1) mind.put(a, topic, NOTHING);
    if (other == 1) mind.put(b, topic, NOTHING);
    mind.pass(n);
  }

  /** In how many of t to the power of n the cold YEARS (bits) are just these, if the TOPIC is WRITTEN then; else 0. */
  private long weightIfWritten(int topic, int n, int t, int cold) {
    long weight = 1;
    mind.become(now);
    for (int i = 0; i < n; i++) {
      if ((cold >> i & 1) == 1) mind.growOlder(5);
      else weight *= t - 1;
      mind.passFor(topic, 1);
    }
    return mind.isWritten(topic) ? weight : 0;
  }

  private boolean mindSaysRow(int citizen, int topic) {
    for (int i = 0; i < rowSize; i++) {
      if (mind.wordOf(citizen, topic) != row[i]) return false;
      mind.passFor(topic, 1);
    }
    return true;
  }

  private static long leastTerms(long above, long below, int part) {
    if (above == 0 || below == 0) return part;
    long divisor = above;
    long rest = below;
    for (int i = 0; i < 1000 && rest != 0; i++) {
      long next = divisor % rest;
      divisor = rest;
      rest = next;
    }
    if (divisor == 0) return part;
    return part == 0 ? above / divisor : below / divisor;
  }

  /** The letters that have come and are no TOWN yet. */
  private static final class Letters {
    private final int[] signs;
    private int size;

    Letters() {
      signs = new int[MOST_LETTERS];
      size = 0;
    }

    private int append(int c) {
      if (size >= MOST_LETTERS) return size;
      signs[size] = c;
      size++;
      return size;
    }

    /** Behind the end stands no letter, so that what lacks is misspelt there. */
    private int sign(int at) {
      return at >= 0 && at < size ? signs[at] : -1;
    }

    private boolean isDigit(int at) {
      return sign(at) >= '0' && sign(at) <= '9';
    }

    private int digit(int at) {
      return sign(at) - '0';
    }

    private int twoDigits(int at) {
      return 10 * digit(at) + digit(at + 1);
    }

    private int kindAt(int at) {
      for (int k = 0; k < KIND_LETTERS.length(); k++) {
        if (KIND_LETTERS.charAt(k) == sign(at)) return k;
      }
      return -1;
    }

    /** The FAULT of kind 1; 0 there is none. */
    private int spelling() {
      int at = 0;
      for (int i = 0; i < MOST_LETTERS; i++) {
        int behind = behindStatement(at);
        if (behind < 0) return -999 + behind;
        if (behind >= size) return 0;
        at = behind;
      }
      return 0;
    }

    /** The place behind the STATEMENT that begins here; -1 less the place of what is misspelt in it. */
    private int behindStatement(int start) {
      switch (sign(start)) {
        case 'c': return kindAt(start + 1) < 0 ? -1 - (start + 1) : behindDigits(start + 2, 3, 3);
        case 'w': return behindDigits(start + 1, 3, 3);
        case 'a': return behindDigits(start + 1, 2, 1 + TOPICS);
        case 'q': return behindDigits(start + 1, 3, 3);
        case 'd': return behindDigits(start + 1, 1, 1);
        case 'y': return behindDigits(start + 1, 2, 2);
        default: return -1 - start;
      }
    }

    private int behindDigits(int from, int least, int most) {
      int at = from;
      while (at < from + most && isDigit(at)) at++;
      if (at < from + least || sign(at) != ';') return -1 - at;
      return at + 1;
    }

    /** Tells the well spelt STATEMENT that begins here; false if it is not as it must be. */
    private boolean tellStatement(int start, Town town) {
      switch (sign(start)) {
        case 'c': return town.settle(kindAt(start + 1), digit(start + 2), twoDigits(start + 3));
        case 'w': return town.hear(digit(start + 1), digit(start + 2), digit(start + 3));
        case 'a': return tellAll(start, town);
        case 'q': return tellQuarrel(start, town);
        case 'd': return town.bury(digit(start + 1));
        case 'y': return town.spend(twoDigits(start + 1));
        default: return false;
      }
    }

    private boolean tellAll(int start, Town town) {
      for (int t = 0; t < TOPICS && isDigit(start + 2 + t); t++) {
        if (!town.hear(digit(start + 1), t, digit(start + 2 + t))) return false;
      }
      return true;
    }

    private boolean tellQuarrel(int start, Town town) {
      int first = digit(start + 1);
      int other = digit(start + 2);
      int topic = digit(start + 3);
      return first != other && town.hear(first, topic, YES) && town.hear(other, topic, NO);
    }
  }

  /** All that THE IMAGE holds. Of a TOPIC it keeps who says yes and who says no, as bits, the DEAD too. */
  private static final class Town {
    private static final int KEEP = 0;
    private static final int FALL_SILENT = 1;
    private static final int SAY_OTHER = 2;

    private final int[] kind;
    private final int[] figure;
    private final int[] age;
    private final int[] yes;
    private final int[] no;
    private int size;
    private int living;
    private int year;

    Town() {
      kind = new int[CITIZENS];
      figure = new int[CITIZENS];
      age = new int[CITIZENS];
      yes = new int[TOPICS];
      no = new int[TOPICS];
      size = 0;
      living = 0;
      year = 0;
    }

    private void become(Town other) {
      System.arraycopy(other.kind, 0, kind, 0, CITIZENS);
      System.arraycopy(other.figure, 0, figure, 0, CITIZENS);
      System.arraycopy(other.age, 0, age, 0, CITIZENS);
      System.arraycopy(other.yes, 0, yes, 0, TOPICS);
      System.arraycopy(other.no, 0, no, 0, TOPICS);
      size = other.size;
      living = other.living;
      year = other.year;
    }

    // ---- who is there

    private boolean settle(int newKind, int newFigure, int newAge) {
      if (size >= CITIZENS) return false;
      kind[size] = newKind;
      figure[size] = newFigure;
      age[size] = newAge;
      living |= 1 << size;
      size++;
      return true;
    }

    private boolean isLiving(int i) {
      return i >= 0 && i < size && (living >> i & 1) == 1;
    }

    /** False if there is nobody who lives to be buried. */
    private boolean bury(int i) {
      if (!isLiving(i)) return false;
      living &= ~(1 << i);
      return true;
    }

    private int howManyLive() {
      return Integer.bitCount(living);
    }

    private int everybody() {
      return (1 << size) - 1;
    }

    private int lifeOf(int i) {
      int k = kind[i];
      return k >= 0 && k < LIFE.length ? LIFE[k] + figure[i] : OLDEST;
    }

    private int agesOfLiving() {
      int sum = 0;
      for (int i = 0; i < size; i++) {
        if (isLiving(i)) sum += age[i];
      }
      return sum;
    }

    // ---- what is said

    private int wordOf(int i, int t) {
      if ((yes[t] >> i & 1) == 1) return YES;
      return (no[t] >> i & 1) == 1 ? NO : NOTHING;
    }

    private void put(int i, int t, int word) {
      int me = 1 << i;
      yes[t] = word == YES ? yes[t] | me : yes[t] & ~me;
      no[t] = word == NO ? no[t] | me : no[t] & ~me;
    }

    /** A WORD as it is told: false if nobody who lives can say it. */
    private boolean hear(int i, int t, int word) {
      if (!isLiving(i) || noTopic(t) || word < 0 || word >= WORDS) return false;
      put(i, t, word);
      return true;
    }

    private int livingYes(int t) {
      return yes[t] & living;
    }

    private int livingNo(int t) {
      return no[t] & living;
    }

    private int topicsOf(int i) {
      int topics = 0;
      for (int t = 0; t < TOPICS; t++) {
        if (wordOf(i, t) != NOTHING) topics++;
      }
      return topics;
    }

    private int wordsOfLiving() {
      int words = 0;
      for (int t = 0; t < TOPICS; t++) words += Integer.bitCount((yes[t] | no[t]) & living);
      return words;
    }

    /** Of how many TOPICS each of the two says the other of what the other one says. */
    private int denials(int a, int b) {
      int topics = 0;
      for (int t = 0; t < TOPICS; t++) {
        if (wordOf(a, t) + wordOf(b, t) == YES + NO && wordOf(a, t) != NOTHING && wordOf(b, t) != NOTHING) topics++;
      }
      return topics;
    }

    private boolean isWritten(int t) {
      return livingYes(t) != 0 && livingNo(t) != 0;
    }

    private int book() {
      int bits = 0;
      for (int t = 0; t < TOPICS; t++) {
        if (isWritten(t)) bits |= 1 << t;
      }
      return bits;
    }

    private int bookSize() {
      return Integer.bitCount(book());
    }

    private int chapterOf(int i) {
      if (!isLiving(i)) return 0;
      int topics = 0;
      for (int t = 0; t < TOPICS; t++) {
        if (isWritten(t) && wordOf(i, t) != NOTHING) topics++;
      }
      return topics;
    }

    /** WORDS by lot of all who live; answers the seed as it is then. */
    private int drawWords(int seed) {
      int z = seed;
      for (int i = 0; i < size; i++) {
        if (!isLiving(i)) continue;
        for (int t = 0; t < TOPICS; t++) {
          z = z * 1664525 + 1013904223;
          put(i, t, (z & WITHOUT_SIGN) / 256 % WORDS);
        }
      }
      return z;
    }

    // ---- years

    /** YEARS that go by in earnest; false, and none goes by, if there are too few or too many. */
    private boolean spend(int n) {
      if (n < 1 || n > MOST_YEARS || year + n > LAST_YEAR) return false;
      for (int i = 0; i < n; i++) passOne(0, TOPICS);
      return true;
    }

    private void pass(int n) {
      for (int i = 0; i < n; i++) passOne(0, TOPICS);
    }

    /** As pass, but of the WORDS only those about one TOPIC: no TOPIC asks what is said of another one. */
    private void passFor(int topic, int n) {
      for (int i = 0; i < n; i++) passOne(topic, topic + 1);
    }

    /** Behind how many YEARS the TOPIC is WRITTEN no more; one more than the most if it never ends. These YEARS go by. */
    private int endOf(int topic) {
      int n = 0;
      while (n <= MOST_YEARS && isWritten(topic)) {
        passOne(topic, topic + 1);
        n++;
      }
      return n;
    }

    /** A YEAR with the TOPICS from .. to, without the last; whether a WORD changes or one dies. */
    private boolean passOne(int from, int to) {
      int livedBefore = living;
      year++;
      growOlder(1);
      buryTheOld();
      boolean changed = living != livedBefore;
      for (int i = 0; i < size; i++) {
        if (!isLiving(i)) continue;
        for (int t = from; t < to; t++) {
          if (thinkAgain(i, t)) changed = true;
        }
      }
      return changed;
    }

    private void growOlder(int by) {
      for (int i = 0; i < size; i++) {
        if (isLiving(i)) age[i] = Math.min(OLDEST, age[i] + by);
      }
    }

    private void buryTheOld() {
      for (int i = 0; i < size; i++) {
        if (age[i] >= lifeOf(i)) bury(i);
      }
    }

    /** Whether one changes his WORD by his KIND. */
    private boolean thinkAgain(int i, int t) {
      int word = wordOf(i, t);
      if (word == NOTHING) return false;
      int sayYes = Integer.bitCount(livingYes(t));
      int sayNo = Integer.bitCount(livingNo(t));
      int same = word == YES ? sayYes : sayNo;
      int against = word == YES ? sayNo : sayYes;
      int deed = deedOf(i, same, against);
      if (deed == KEEP) return false;
      put(i, t, deed == FALL_SILENT ? NOTHING : YES + NO - word);
      return true;
    }

    private int deedOf(int i, int same, int against) {
      boolean pressed = same == 1 && against >= 2;
      switch (kind[i]) {
        case KIND_CITIZEN: return pressed ? FALL_SILENT : KEEP;
        case KIND_HIRED: return pressed || isYearOf(figure[i] + 1) ? FALL_SILENT : KEEP;
        case KIND_FOOL: return pressed ? SAY_OTHER : KEEP;
        case KIND_LIAR: return pressed || isYearOf(figure[i] + 2) ? SAY_OTHER : KEEP;
        case KIND_KING: return against == 0 ? FALL_SILENT : KEEP;
        default: return KEEP;
      }
    }

    private boolean isYearOf(int divisor) {
      return divisor > 0 && year % divisor == 0;
    }
  }
}
