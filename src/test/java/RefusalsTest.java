import java.util.ArrayList;
import java.util.List;

/**
 * REFUSALS of promises 2 to 39: each number that is taken or refused with each other one, in an empty, an ordinary and
 * full objects: what a refused call answers (the first that fits in the order told), that it is counted, and that
 * nothing else changes; that a question changes nothing.
 */
public final class RefusalsTest {
  private static final long REFUSED_LONG = 4000000000000000000L;

  private interface Call {
    long on(DeniedOfEachOther x, int[] a);
  }

  /** A number that comes in, and the refusal that it fits (0 it is taken). */
  private record Number(int v, int refusal) {}

  private enum Kind { CHANGE, QUESTION, LONG_QUESTION }

  /** An object that is made anew for each call, and what is seen of it if none is called. */
  private static final class State {
    final String name;
    final int size;
    /** -1 there is none. */
    final int dead;
    final int year;
    final boolean full;
    final List<Long> seen;

    State(String name, int size, int dead, int year, boolean full) {
      this.name = name;
      this.size = size;
      this.dead = dead;
      this.year = year;
      this.full = full;
      DeniedOfEachOther x = make();
      Due.says(39, "counts of " + name);
      Due.is("count(0)", x.count(0), size);
      Due.is("count(1)", x.count(1), year);
      Due.is("count(2)", x.count(2), dead < 0 ? size : size - 1);
      Due.is("count(6)", x.count(6), full ? 16 : size == 0 ? 0 : 3);
      Due.is("count(7)", x.count(7), full ? 96 : size == 0 ? 0 : 5);
      for (int r = 1; r <= 6; r++) Due.is("count(" + (10 + r) + ")", x.count(10 + r), size == 0 ? 0 : r == 2 ? 2 : r == 5 ? 0 : 1);
      Due.is("judge(): the ROW is so, and would not be with another number", make().judge(), -9);
      seen = look(x);
    }

    DeniedOfEachOther make() {
      if (size == 0) return new DeniedOfEachOther();
      return size == 3 ? ordinary() : size == 6 ? fullTown() : fullRows();
    }
  }

  private static final State EMPTY = new State("an empty object", 0, -1, 0, false);
  private static final State ORDINARY = new State("three citizens", 3, 1, 7, false);
  private static final State FULL_TOWN = new State("six citizens", 6, 5, 940, false);
  private static final State FULL_ROWS = new State("a full row and full letters", 2, -1, 999, true);
  private static final State[] STATES = {EMPTY, ORDINARY, FULL_TOWN, FULL_ROWS};

  public static void main(String[] args) {
    for (State s : STATES) {
      letters(s);
      ofCitizens(s);
      changes(s);
      yearsGoBy(s);
      yearsOn(s);
      theBook(s);
      livesAndHeirs(s);
      games(s);
      odds(s);
      rows(s);
      lotsAndImages(s);
      counts(s);
    }
    Due.end();
  }

  // ---- the objects

  private static DeniedOfEachOther ordinary() {
    DeniedOfEachOther x = Due.town("cl305;cc440;cf230;w011;w201;q010;");
    refuseSomeAndTakeAnImage(x);
    Due.tell(x, "y07;q027;d1;");
    return Due.letters(Due.withRow(x, 2, 2, 2), "w062;");
  }

  private static DeniedOfEachOther fullTown() {
    DeniedOfEachOther x = Due.town("y60;".repeat(15) + "y39;", "cc340;ch225;cw930;cf145;cl062;ck588;", "a012012012;a112001212;a221212121;a322222222;a410201002;a511111122;");
    refuseSomeAndTakeAnImage(x);
    Due.tell(x, "y01;d5;w202;");
    return Due.letters(Due.withRow(x, 7, 5, 5), "q230;");
  }

  private static DeniedOfEachOther fullRows() {
    DeniedOfEachOther x = Due.inYear(979);
    Due.tell(x, "cw000;ch800;a012121212;a121212121;");
    refuseSomeAndTakeAnImage(x);
    x.years(20);
    x.says(1, 0, 2);
    Due.withRow(x, 1, 1, 1, 1, 1, 1, 1, 1, 1, 0, 0, 0, 0, 0, 0, 0);
    return Due.letters(x, "cc000;" + "w111;".repeat(18));
  }

  /** Each refusal of -1 to -6 once, but -2 twice and -5 never. */
  private static void refuseSomeAndTakeAnImage(DeniedOfEachOther x) {
    x.word(9, 0);
    x.silent(2);
    x.silent(2);
    x.on();
    x.row(-1);
    x.letter(256);
    x.image();
  }

  private static void refusals(DeniedOfEachOther x, List<Long> seen) {
    for (int r = 11; r <= 16; r++) seen.add((long) x.count(r));
  }

  /** All that can be seen of an object; this uses it up. REFUSALS stand first. */
  private static List<Long> look(DeniedOfEachOther x) {
    List<Long> seen = new ArrayList<>();
    refusals(x, seen);
    people(x, seen);
    seen.add((long) x.count(6));
    seen.add((long) x.count(7));
    seen.add((long) x.judge());
    seen.add((long) x.town());
    words(x, seen);
    seen.add((long) x.on());
    people(x, seen);
    return seen;
  }

  private static void people(DeniedOfEachOther x, List<Long> seen) {
    for (int what = 0; what <= 5; what++) seen.add((long) x.count(what));
    for (int i = 0; i < x.count(0); i++) {
      for (int what = 0; what <= 5; what++) seen.add((long) x.citizen(i, what));
    }
    words(x, seen);
  }

  private static void words(DeniedOfEachOther x, List<Long> seen) {
    for (int i = 0; i < x.count(0); i++) {
      for (int t = 0; t <= 7; t++) seen.add((long) x.word(i, t));
    }
  }

  // ---- how a call is held against what is due

  private static void refused(State s, String call, boolean isLong, int number, Call c, int... a) {
    DeniedOfEachOther x = s.make();
    Due.is(call + " in " + s.name, c.on(x, a), isLong ? REFUSED_LONG - number : number);
    List<Long> seen = look(x);
    for (int i = 0; i < 6; i++) {
      long want = s.seen.get(i) + (i == -number - 1 ? 1 : 0);
      Due.is("count(" + (11 + i) + ") behind " + call + " in " + s.name, seen.get(i), want);
    }
    Due.must("nothing else changes by " + call + " in " + s.name, restOf(seen).equals(restOf(s.seen)));
  }

  private static List<Long> restOf(List<Long> seen) {
    return seen.subList(6, seen.size());
  }

  private static void taken(State s, String call, Kind kind, Call c, int... a) {
    DeniedOfEachOther x = s.make();
    long answer = c.on(x, a);
    Due.must(call + " in " + s.name + " is taken, but answered " + answer, answer < REFUSED_LONG && (answer >= 0 || answer == -9));
    List<Long> seen = look(x);
    Due.must("nothing is counted by " + call + " in " + s.name, seen.subList(0, 6).equals(s.seen.subList(0, 6)));
    if (kind != Kind.CHANGE) Due.must("the question " + call + " changes nothing in " + s.name, seen.equals(s.seen));
  }

  /** Each number of each list with each of the others; order: the refusals as the promise tells them. */
  private static void each(State s, String name, Kind kind, int[] order, Call c, Number[]... lists) {
    int[] at = new int[lists.length];
    int[] a = new int[lists.length];
    do {
      StringBuilder call = new StringBuilder(name + "(");
      int first = order.length;
      for (int i = 0; i < lists.length; i++) {
        Number n = lists[i][at[i]];
        a[i] = n.v();
        call.append(i == 0 ? "" : ", ").append(n.v());
        for (int o = 0; o < first; o++) if (order[o] == n.refusal()) first = o;
      }
      call.append(")");
      if (first == order.length) taken(s, call.toString(), kind, c, a);
      else refused(s, call.toString(), kind == Kind.LONG_QUESTION, order[first], c, a);
    } while (goOn(at, lists));
  }

  private static boolean goOn(int[] at, Number[][] lists) {
    for (int i = 0; i < at.length; i++) {
      at[i]++;
      if (at[i] < lists[i].length) return true;
      at[i] = 0;
    }
    return false;
  }

  private static int[] order(int... numbers) {
    return numbers;
  }

  // ---- the numbers that come in

  /** least .. most are taken: these two, and the numbers beside them and at the ends of int. */
  private static Number[] between(int least, int most, int below, int above) {
    return new Number[] {
      new Number(least, 0), new Number(most, 0), new Number(least - 1, below), new Number(Due.LEAST, below),
      new Number(most + 1, above), new Number(Due.GREATEST, above)
    };
  }

  private static Number[] citizens(State s, int ofDead) {
    List<Number> list = new ArrayList<>();
    for (int i = 0; i < s.size; i++) list.add(new Number(i, i == s.dead ? ofDead : 0));
    for (int i : new int[] {-1, Due.LEAST, s.size, s.size + 1, Due.GREATEST}) list.add(new Number(i, -1));
    return list.toArray(new Number[0]);
  }

  private static Number[] topics() {
    return between(0, 7, -1, -1);
  }

  private static Number[] whats(int most) {
    return between(0, most, -2, -2);
  }

  private static Number[] thoughtYears() {
    return between(0, 60, -4, -6);
  }

  // ---- the calls

  private static void letters(State s) {
    Due.says(2, "-4; -6 (255; 96, too)");
    Call c = (x, a) -> x.letter(a[0]);
    for (Number n : between(0, 255, -4, -6)) {
      if (n.refusal() == 0 && !s.full) taken(s, "letter(" + n.v() + ")", Kind.CHANGE, c, n.v());
      else refused(s, "letter(" + n.v() + ")", false, n.refusal() == 0 ? -6 : n.refusal(), c, n.v());
    }
  }

  private static void ofCitizens(State s) {
    Due.says(4, "-1; -2");
    each(s, "citizen", Kind.QUESTION, order(-1, -2), (x, a) -> x.citizen(a[0], a[1]), citizens(s, 0), whats(5));
    Due.says(5, "-1 either");
    each(s, "word", Kind.QUESTION, order(-1), (x, a) -> x.word(a[0], a[1]), citizens(s, 0), topics());
    Due.says(6, "What is WRITTEN");
    each(s, "written", Kind.QUESTION, order(), (x, a) -> x.written());
    Due.says(27, "-1; -3 he is DEAD");
    each(s, "friends", Kind.QUESTION, order(-1, -3), (x, a) -> x.friends(a[0]), citizens(s, -3));
  }

  private static void changes(State s) {
    Due.says(7, "-1 either; -2; -3 he is DEAD");
    each(s, "says", Kind.CHANGE, order(-1, -2, -3), (x, a) -> x.says(a[0], a[1], a[2]), citizens(s, -3), topics(), whats(2));
    Due.says(8, "-1; -4; -6 99");
    each(s, "ages", Kind.CHANGE, order(-1, -4, -6), (x, a) -> x.ages(a[0], a[1]), citizens(s, 0), between(0, 99, -4, -6));
    Due.says(9, "-1; -3 he is already");
    each(s, "dies", Kind.CHANGE, order(-1, -3), (x, a) -> x.dies(a[0]), citizens(s, -3));
    Due.says(10, "-1; -2; -4; -6 9");
    each(s, "turn", Kind.CHANGE, order(-1, -2, -4, -6), (x, a) -> x.turn(a[0], a[1], a[2]), citizens(s, 0), whats(5), between(0, 9, -4, -6));
  }

  private static void yearsGoBy(State s) {
    Due.says(11, "-4; -6 (60; YEAR above 999)");
    each(s, "years", Kind.CHANGE, order(-4), (x, a) -> x.years(a[0]), new Number[] {new Number(0, -4), new Number(-1, -4), new Number(Due.LEAST, -4)});
    int most = Math.min(60, 999 - s.year);
    for (int n : new int[] {1, 2, 58, 59, 60, 61, Due.GREATEST - 999, Due.GREATEST}) {
      if (n <= most) taken(s, "years(" + n + ")", Kind.CHANGE, (x, a) -> x.years(a[0]), n);
      else refused(s, "years(" + n + ")", false, -6, (x, a) -> x.years(a[0]), n);
    }
  }

  private static void yearsOn(State s) {
    Due.says(12, "-4; -6 60");
    each(s, "writtenThen", Kind.QUESTION, order(-4, -6), (x, a) -> x.writtenThen(a[0]), thoughtYears());
    Due.says(13, "-1 either; -4; -6 60");
    each(s, "wordThen", Kind.QUESTION, order(-1, -4, -6), (x, a) -> x.wordThen(a[0], a[1], a[2]), citizens(s, 0), topics(), thoughtYears());
    Due.says(14, "-4; -6 60");
    each(s, "deadThen", Kind.QUESTION, order(-4, -6), (x, a) -> x.deadThen(a[0]), thoughtYears());
    Due.says(15, "-1");
    each(s, "lasts", Kind.QUESTION, order(-1), (x, a) -> x.lasts(a[0]), topics());
    Due.says(16, "-2");
    each(s, "lost", Kind.QUESTION, order(-2), (x, a) -> x.lost(a[0]), whats(1));
    Due.says(17, "-2");
    each(s, "still", Kind.QUESTION, order(-2), (x, a) -> x.still(a[0]), whats(1));
  }

  private static void theBook(State s) {
    Due.says(18, "CHAPTER of one (citizen -1: who has most; -9). -1");
    each(s, "chapter", Kind.QUESTION, order(-1), (x, a) -> x.chapter(a[0]), between(-1, s.size - 1, -1, -1));
    Due.says(19, "-1");
    each(s, "quarrel", Kind.QUESTION, order(-1), (x, a) -> x.quarrel(a[0]), topics());
    Due.says(20, "KEEPS");
    each(s, "keeps", Kind.QUESTION, order(), (x, a) -> x.keeps());
    Due.says(21, "-2");
    each(s, "silent", Kind.QUESTION, order(-2), (x, a) -> x.silent(a[0]), whats(1));
    Due.says(24, "the fewest (topic -1), what is so. -1");
    each(s, "so", Kind.QUESTION, order(-1), (x, a) -> x.so(a[0]), between(-1, 7, -1, -1));
    Due.says(25, "LEAST LIARS");
    each(s, "leastLiars", Kind.QUESTION, order(), (x, a) -> x.leastLiars());
    Due.says(26, "-2");
    each(s, "differ", Kind.QUESTION, order(-2), (x, a) -> x.differ(a[0]), whats(2));
    Due.says(28, "GIVES");
    each(s, "gives", Kind.QUESTION, order(), (x, a) -> x.gives());
  }

  private static void livesAndHeirs(State s) {
    Due.says(22, "-4; -6 60; -2");
    each(s, "lives", Kind.QUESTION, order(-4, -6, -2), (x, a) -> x.lives(a[0], a[1]), thoughtYears(), whats(1));
    Due.says(23, "-4; -6 60");
    each(s, "heir", Kind.QUESTION, order(-4, -6), (x, a) -> x.heir(a[0]), thoughtYears());
  }

  private static void games(State s) {
    Due.says(29, "-1 any (one twice, too); -4; -6 60; -3 either is DEAD");
    Call c = (x, a) -> x.two(a[0], a[1], a[2], a[3]);
    for (Number first : citizens(s, -3)) {
      for (Number other : citizens(s, -3)) {
        // One twice is refused as nobody, even if he is DEAD.
        boolean twice = first.v() == other.v();
        Number[] a = {twice ? new Number(first.v(), -1) : first};
        Number[] b = {other};
        each(s, "two", Kind.QUESTION, order(-1, -4, -6, -3), c, a, b, topics(), thoughtYears());
      }
    }
  }

  private static void odds(State s) {
    Due.says(30, "Refused as told: -1; -4 (n; t below 2); -6 (7; 20); -2. Of longs 4000000000000000000 less them");
    each(s, "winter", Kind.LONG_QUESTION, order(-1, -4, -6, -2), (x, a) -> x.winter(a[0], a[1], a[2], a[3]),
        topics(), between(0, 7, -4, -6), between(2, 20, -4, -6), whats(1));
    Due.says(31, "Refused as told: -2");
    each(s, "mean", Kind.LONG_QUESTION, order(-2), (x, a) -> x.mean(a[0]), whats(1));
    Due.says(30, "(-1 as 4000000000000000001)");
    Due.is("winter(-1, 0, 2, 0)", s.make().winter(-1, 0, 2, 0), 4000000000000000001L);
    Due.is("winter(0, -1, 2, 0)", s.make().winter(0, -1, 2, 0), 4000000000000000004L);
    Due.is("winter(0, 8, 2, 0)", s.make().winter(0, 8, 2, 0), 4000000000000000006L);
    Due.is("winter(0, 0, 2, 2)", s.make().winter(0, 0, 2, 2), 4000000000000000002L);
    Due.is("mean(2)", s.make().mean(2), 4000000000000000002L);
  }

  private static void rows(State s) {
    Due.says(32, "-1 either; -2");
    each(s, "whatIs", Kind.QUESTION, order(-1, -2), (x, a) -> x.whatIs(a[0], a[1], a[2]), citizens(s, 0), topics(), whats(1));
    Due.says(33, "-4; -6 (99; 16, too)");
    Call c = (x, a) -> x.row(a[0]);
    for (Number n : between(0, 99, -4, -6)) {
      if (n.refusal() == 0 && !s.full) taken(s, "row(" + n.v() + ")", Kind.CHANGE, c, n.v());
      else refused(s, "row(" + n.v() + ")", false, n.refusal() == 0 ? -6 : n.refusal(), c, n.v());
    }
    Due.says(34, "JUDGED; -9: nothing is refused");
    taken(s, "judge()", Kind.CHANGE, (x, a) -> x.judge());
    Due.says(35, "how many it had: nothing is refused");
    taken(s, "clear()", Kind.CHANGE, (x, a) -> x.clear());
  }

  private static void lotsAndImages(State s) {
    Due.says(36, "-4; -6 20; -2");
    Number[] seeds = {new Number(0, 0), new Number(-1, 0), new Number(Due.LEAST, 0), new Number(Due.GREATEST, 0)};
    each(s, "lots", Kind.QUESTION, order(-4, -6, -2), (x, a) -> x.lots(a[0], a[1], a[2]), between(1, 20, -4, -6), seeds, whats(1));
    Due.says(37, "THE IMAGE is taken: nothing is refused");
    taken(s, "image()", Kind.CHANGE, (x, a) -> x.image());
    Due.says(38, "-3 there is none");
    if (s == EMPTY) refused(s, "on()", false, -3, (x, a) -> x.on());
    else taken(s, "on()", Kind.CHANGE, (x, a) -> x.on());
  }

  private static void counts(State s) {
    Due.says(39, "0 .. 7, 11 .. 16; -9 for another what");
    int[] whats = {0, 1, 2, 3, 4, 5, 6, 7, 8, 9, 10, 11, 12, 13, 14, 15, 16, 17, 18, -1, -9, -11, 267, Due.LEAST, Due.GREATEST};
    for (int what : whats) {
      taken(s, "count(" + what + ")", Kind.QUESTION, (x, a) -> x.count(a[0]), what);
      boolean told = what >= 0 && what <= 7 || what >= 11 && what <= 16;
      Due.must("count(" + what + ") is " + (told ? "told" : "-9"), told == (s.make().count(what) != -9));
    }
  }
}
