import java.math.BigInteger;
import java.util.ArrayList;
import java.util.List;
import java.util.Random;
import java.util.regex.Matcher;
import java.util.regex.Pattern;

/** Long runs of calls by lot, each answer held against a slower writing of the document. */
public final class ModelTest {
  private static final int RUNS = 1500;
  private static final int CALLS = 512;
  private static int wrong = 0;

  public static void main(String[] args) {
    for (int run = 0; run < RUNS && wrong < 20; run++) new Run(run).go();
    System.out.println(wrong == 0 ? "class and model agree" : wrong + " answers differ");
    if (wrong != 0) System.exit(1);
  }

  /** One object and its model, side by side. */
  private static final class Run {
    final int number;
    final Random lot;
    final DeniedOfEachOther x = new DeniedOfEachOther();
    final Model m = new Model();
    int calls = 0;

    Run(int number) {
      this.number = number;
      this.lot = new Random(number);
    }

    void go() {
      boolean bad = number % 5 == 0;
      while (calls < CALLS && wrong < 20) {
        if (lot.nextInt(12) == 0) text(Texts.some(lot, m, bad));
        else if (lot.nextInt(3) == 0) change(bad);
        else ask(bad);
        counts();
      }
    }

    void same(String call, long got, long want) {
      calls++;
      if (got == want) return;
      wrong++;
      System.out.println("run " + number + ", call " + calls + ": " + call + " answered " + got + ", the model " + want);
    }

    void text(String t) {
      for (int i = 0; i < t.length(); i++) same("letter " + t.charAt(i), x.letter(t.charAt(i)), m.letter(t.charAt(i)));
      if (lot.nextInt(10) != 0) same("town of " + m.letters, x.town(), m.town());
    }

    int number(boolean bad, int least, int most) {
      if (bad && lot.nextInt(12) == 0) {
        int[] odd = {least - 1, most + 1, Integer.MIN_VALUE, Integer.MAX_VALUE, -1, 1 << 20};
        return odd[lot.nextInt(odd.length)];
      }
      return least + lot.nextInt(most - least + 1);
    }

    int who(boolean bad) {
      return number(bad, 0, Math.max(0, m.people.size() - (bad ? 0 : 1)));
    }

    void change(boolean bad) {
      int i = who(bad);
      int t = number(bad, 0, 7);
      switch (lot.nextInt(13)) {
        case 0: { int n = number(bad, 1, lot.nextInt(4) == 0 ? 60 : 3); same("years " + n, x.years(n), m.years(n)); break; }
        case 1: { int v = number(bad, 0, 99); same("ages " + i + " " + v, x.ages(i, v), m.ages(i, v)); break; }
        case 2: if (lot.nextInt(3) == 0) same("dies " + i, x.dies(i), m.dies(i)); break;
        case 3: case 4: { int k = number(bad, 0, 5), f = number(bad, 0, 9); same("turn " + i + " " + k + " " + f, x.turn(i, k, f), m.turn(i, k, f)); break; }
        case 5: { int v = number(bad, 0, lot.nextInt(3) == 0 ? 99 : 2); same("row " + v, x.row(v), m.row(v)); break; }
        case 6: same("judge", x.judge(), m.judge()); break;
        case 7: if (lot.nextInt(3) == 0) same("clear", x.clear(), m.clear()); break;
        case 8: same("image", x.image(), m.image()); break;
        case 9: same("on", x.on(), m.on()); break;
        case 10: honestRow(t); break;
        default: { int w = number(bad, 0, 2); same("says " + i + " " + t + " " + w, x.says(i, t, w), m.says(i, t, w)); break; }
      }
    }

    /** A row that is so, or nearly, so that WHAT ONE IS and JUDGED have something to answer. */
    void honestRow(int t) {
      if (t < 0 || t > 7 || m.people.isEmpty()) return;
      same("clear", x.clear(), m.clear());
      boolean judged = lot.nextBoolean();
      int i = lot.nextInt(m.people.size());
      int size = lot.nextInt(17);
      for (int n = 0; n < size; n++) {
        int v = judged ? m.after(n).written().size() : m.after(n).people.get(i).words[t];
        if (lot.nextInt(40) == 0) v++;
        same("row " + v, x.row(v), m.row(v));
      }
      if (judged) same("judge", x.judge(), m.judge());
      else for (int what = 0; what <= 1; what++) same("whatIs " + i + " " + t + " " + what, x.whatIs(i, t, what), m.whatIs(i, t, what));
    }

    void ask(boolean bad) {
      int i = who(bad), t = number(bad, 0, 7), n = number(bad, 0, lot.nextInt(3) == 0 ? 60 : 9), what = number(bad, 0, 1);
      switch (lot.nextInt(27)) {
        case 0: { int v = number(bad, 0, 5); same("citizen " + i + " " + v, x.citizen(i, v), m.citizen(i, v)); break; }
        case 1: same("word " + i + " " + t, x.word(i, t), m.word(i, t)); break;
        case 2: same("written", x.written(), m.bits(m.written())); break;
        case 3: same("writtenThen " + n, x.writtenThen(n), m.writtenThen(n)); break;
        case 4: same("wordThen " + i + " " + t + " " + n, x.wordThen(i, t, n), m.wordThen(i, t, n)); break;
        case 5: same("deadThen " + n, x.deadThen(n), m.deadThen(n)); break;
        case 6: same("lasts " + t, x.lasts(t), m.lasts(t)); break;
        case 7: same("lost " + what, x.lost(what), m.lost(what)); break;
        case 8: same("still " + what, x.still(what), m.still(what)); break;
        case 9: { int c = number(bad, -1, 5); same("chapter " + c, x.chapter(c), m.chapter(c)); break; }
        case 10: same("quarrel " + t, x.quarrel(t), m.quarrel(t)); break;
        case 11: same("keeps", x.keeps(), m.keeps()); break;
        case 12: same("silent " + what, x.silent(what), m.silent(what)); break;
        case 13: same("lives " + n + " " + what, x.lives(n, what), m.lives(n, what)); break;
        case 14: same("heir " + n, x.heir(n), m.heir(n)); break;
        case 15: { int s = number(bad, -1, 7); same("so " + s, x.so(s), m.so(s)); break; }
        case 16: same("leastLiars", x.leastLiars(), m.leastLiars()); break;
        case 17: { int d = number(bad, 0, 2); same("differ " + d, x.differ(d), m.differ(d)); break; }
        case 18: same("friends " + i, x.friends(i), m.friends(i)); break;
        case 19: same("gives", x.gives(), m.gives()); break;
        case 20: { int b = who(bad); same("two " + i + " " + b + " " + t + " " + n, x.two(i, b, t, n), m.two(i, b, t, n)); break; }
        case 21: case 22: { int w = number(bad, 0, 7), o = number(bad, 2, 20); same("winter " + t + " " + w + " " + o + " " + what, x.winter(t, w, o, what), m.winter(t, w, o, what)); break; }
        case 23: same("mean " + what, x.mean(what), m.mean(what)); break;
        case 24: case 25: same("whatIs " + i + " " + t + " " + what, x.whatIs(i, t, what), m.whatIs(i, t, what)); break;
        default: { int l = number(bad, 1, 20), z = lot.nextInt(); same("lots " + l + " " + z + " " + what, x.lots(l, z, what), m.lots(l, z, what)); break; }
      }
    }

    void counts() {
      if (calls % 7 != 0) return;
      int what = lot.nextInt(20) - 1;
      same("count " + what, x.count(what), m.count(what));
    }
  }

  /** Texts by lot, most of them towns. */
  private static final class Texts {
    static String some(Random lot, Model m, boolean bad) {
      StringBuilder b = new StringBuilder();
      int statements = 1 + lot.nextInt(10);
      int people = m.people.size();
      for (int s = 0; s < statements; s++) {
        boolean more = people < 6 && lot.nextInt(people < 3 ? 2 : 5) == 0;
        if (more) people++;
        b.append(more ? newcomer(lot) : people == 0 ? "" : statement(lot, people, bad));
      }
      if (bad && lot.nextInt(4) == 0 && b.length() > 0) {
        int at = lot.nextInt(b.length());
        if (lot.nextBoolean()) b.deleteCharAt(at);
        else b.setCharAt(at, "chwflkaqdy;0123456789/:\0\377".charAt(lot.nextInt(25)));
      }
      return b.toString();
    }

    static String newcomer(Random lot) {
      int age = lot.nextInt(2) == 0 ? lot.nextInt(100) : 30 + lot.nextInt(40);
      return "c" + "chwflk".charAt(lot.nextInt(6)) + lot.nextInt(10) + age / 10 + age % 10 + ";";
    }

    static String statement(Random lot, int people, boolean bad) {
      int i = lot.nextInt(bad ? people + 1 : people) % 10;
      int j = (i + 1 + lot.nextInt(Math.max(1, people - 1))) % people;
      switch (lot.nextInt(8)) {
        case 0: return "w" + i + lot.nextInt(bad ? 9 : 8) + lot.nextInt(bad ? 4 : 3) + ";";
        case 1: case 2: return "q" + i + j + lot.nextInt(8) + ";";
        case 3: if (lot.nextInt(6) == 0) return "d" + i + ";"; else return "w" + i + "0" + lot.nextInt(3) + ";";
        case 4: { int y = bad ? lot.nextInt(63) : 1 + lot.nextInt(4); return "y" + y / 10 + y % 10 + ";"; }
        default: {
          StringBuilder b = new StringBuilder("a" + i);
          int words = 1 + lot.nextInt(8);
          for (int w = 0; w < words; w++) b.append(lot.nextInt(3));
          return b + ";";
        }
      }
    }
  }

  private static final class Person {
    int kind, figure, age;
    boolean dead;
    int[] words = new int[8];

    Person copy() {
      Person p = new Person();
      p.kind = kind;
      p.figure = figure;
      p.age = age;
      p.dead = dead;
      p.words = words.clone();
      return p;
    }

    int life() {
      int citizen = 60 + figure, widow = citizen + 20;
      return new int[] {citizen, citizen - 10, widow, citizen, citizen + 5, widow + 5}[kind];
    }
  }

  /** The document once more, without any haste. */
  private static final class Model {
    List<Person> people = new ArrayList<>();
    int year = 0;
    Model image = null;
    StringBuilder letters = new StringBuilder();
    List<Integer> row = new ArrayList<>();
    int[] refused = new int[7];

    int no(int number) {
      refused[-number]++;
      return number;
    }

    Model copy() {
      Model c = new Model();
      for (Person p : people) c.people.add(p.copy());
      c.year = year;
      return c;
    }

    void take(Model c) {
      people.clear();
      for (Person p : c.people) people.add(p.copy());
      year = c.year;
    }

    // ---- years

    boolean step() {
      Model before = copy();
      year++;
      for (Person p : people) if (!p.dead) p.age = Math.min(p.age + 1, 99);
      for (Person p : people) if (!p.dead && p.age >= p.life()) p.dead = true;
      for (Person p : people) {
        for (int t = 0; t < 8 && !p.dead; t++) if (p.words[t] != 0) p.words[t] = then(p, t);
      }
      for (int i = 0; i < people.size(); i++) {
        if (people.get(i).dead != before.people.get(i).dead) return true;
        for (int t = 0; t < 8; t++) if (people.get(i).words[t] != before.people.get(i).words[t]) return true;
      }
      return false;
    }

    int then(Person p, int t) {
      int same = 0, against = 0;
      for (Person q : people) {
        if (q.dead || q.words[t] == 0) continue;
        if (q.words[t] == p.words[t]) same++;
        else against++;
      }
      int word = p.words[t], other = word == 1 ? 2 : 1;
      boolean alone = same == 1 && against > 1;
      if (p.kind == 1 && year % (p.figure + 1) == 0) return 0;
      if (p.kind == 4 && year % (p.figure + 2) == 0) return other;
      if (p.kind == 0 || p.kind == 1) return alone ? 0 : word;
      if (p.kind == 3 || p.kind == 4) return alone ? other : word;
      if (p.kind == 5) return against == 0 ? 0 : word;
      return word;
    }

    Model after(int n) {
      Model c = copy();
      for (int i = 0; i < n; i++) c.step();
      return c;
    }

    // ---- the book

    boolean isWritten(int t) {
      for (Person p : people) for (Person q : people) if (!p.dead && !q.dead && p.words[t] == 1 && q.words[t] == 2) return true;
      return false;
    }

    List<Integer> written() {
      List<Integer> l = new ArrayList<>();
      for (int t = 0; t < 8; t++) if (isWritten(t)) l.add(t);
      return l;
    }

    int bits(List<Integer> l) {
      int b = 0;
      for (int t : l) b += 1 << t;
      return b;
    }

    List<Integer> living() {
      List<Integer> l = new ArrayList<>();
      for (int i = 0; i < people.size(); i++) if (!people.get(i).dead) l.add(i);
      return l;
    }

    boolean nobody(int i) {
      return i < 0 || i >= people.size();
    }

    boolean noTopic(int t) {
      return t < 0 || t > 7;
    }

    int yearsWrong(int n, int least) {
      return n < least ? -4 : n > 60 ? -6 : 0;
    }

    // ---- told and changed

    int letter(int c) {
      if (c < 0) return no(-4);
      if (c > 255 || letters.length() == 96) return no(-6);
      letters.append((char) c);
      return letters.length();
    }

    static final String STATEMENT = "(?:c[chwflk]\\d{3}|w\\d{3}|a\\d{2,9}|q\\d{3}|d\\d|y\\d\\d);";

    /** Whether some TOWN begins with these letters; hitEnd tells that more letters could make one. */
    boolean canGoOn(String head) {
      Matcher matcher = Pattern.compile("(?:" + STATEMENT + ")+").matcher(head);
      return matcher.matches() || matcher.hitEnd();
    }

    int town() {
      String text = letters.toString();
      letters.setLength(0);
      for (int i = 0; i < text.length(); i++) if (!canGoOn(text.substring(0, i + 1))) return -1000 - i;
      if (!text.endsWith(";")) return -1000 - text.length();
      Model c = copy();
      int place = 0, statements = 0;
      for (String s : text.split(";")) {
        if (!c.hear(s)) return -2000 - place;
        place += s.length() + 1;
        statements++;
      }
      take(c);
      return statements;
    }

    boolean canSpeak(int i) {
      return !nobody(i) && !people.get(i).dead;
    }

    boolean hear(String s) {
      int first = s.charAt(1) - '0';
      switch (s.charAt(0)) {
        case 'c': {
          if (people.size() == 6) return false;
          Person p = new Person();
          p.kind = "chwflk".indexOf(s.charAt(1));
          p.figure = s.charAt(2) - '0';
          p.age = Integer.parseInt(s.substring(3));
          people.add(p);
          return true;
        }
        case 'w':
          if (!canSpeak(first) || s.charAt(2) > '7' || s.charAt(3) > '2') return false;
          people.get(first).words[s.charAt(2) - '0'] = s.charAt(3) - '0';
          return true;
        case 'a':
          if (!canSpeak(first)) return false;
          for (int i = 2; i < s.length(); i++) {
            if (s.charAt(i) > '2') return false;
            people.get(first).words[i - 2] = s.charAt(i) - '0';
          }
          return true;
        case 'q': {
          int other = s.charAt(2) - '0', t = s.charAt(3) - '0';
          if (first == other || !canSpeak(first) || !canSpeak(other) || noTopic(t)) return false;
          people.get(first).words[t] = 1;
          people.get(other).words[t] = 2;
          return true;
        }
        case 'd':
          if (!canSpeak(first)) return false;
          people.get(first).dead = true;
          return true;
        default: {
          int n = Integer.parseInt(s.substring(1));
          if (yearsWrong(n, 1) != 0 || year + n > 999) return false;
          for (int i = 0; i < n; i++) step();
          return true;
        }
      }
    }

    int citizen(int i, int what) {
      if (nobody(i)) return no(-1);
      if (what < 0 || what > 5) return no(-2);
      Person p = people.get(i);
      int said = 0;
      for (int w : p.words) said += w == 0 ? 0 : 1;
      return new int[] {p.kind, p.figure, p.age, p.dead ? 1 : 0, p.life(), said}[what];
    }

    int word(int i, int t) {
      return nobody(i) || noTopic(t) ? no(-1) : people.get(i).words[t];
    }

    int says(int i, int t, int w) {
      if (nobody(i) || noTopic(t)) return no(-1);
      if (w < 0 || w > 2) return no(-2);
      if (people.get(i).dead) return no(-3);
      int was = people.get(i).words[t];
      people.get(i).words[t] = w;
      return was;
    }

    int ages(int i, int v) {
      if (nobody(i)) return no(-1);
      if (v < 0) return no(-4);
      if (v > 99) return no(-6);
      int was = people.get(i).age;
      people.get(i).age = v;
      return was;
    }

    int dies(int i) {
      if (nobody(i)) return no(-1);
      if (people.get(i).dead) return no(-3);
      people.get(i).dead = true;
      return living().size();
    }

    int turn(int i, int k, int f) {
      if (nobody(i)) return no(-1);
      if (k < 0 || k > 5) return no(-2);
      if (f < 0) return no(-4);
      if (f > 9) return no(-6);
      Person p = people.get(i);
      int was = p.kind * 10 + p.figure;
      p.kind = k;
      p.figure = f;
      return was;
    }

    int years(int n) {
      if (n < 1) return no(-4);
      if (n > 60 || n > 999 - year) return no(-6);
      for (int i = 0; i < n; i++) step();
      return written().size();
    }

    // ---- in thought

    int writtenThen(int n) {
      return yearsWrong(n, 0) != 0 ? no(yearsWrong(n, 0)) : bits(after(n).written());
    }

    int wordThen(int i, int t, int n) {
      if (nobody(i) || noTopic(t)) return no(-1);
      return yearsWrong(n, 0) != 0 ? no(yearsWrong(n, 0)) : after(n).people.get(i).words[t];
    }

    int deadThen(int n) {
      if (yearsWrong(n, 0) != 0) return no(yearsWrong(n, 0));
      int b = (1 << people.size()) - 1;
      for (int i : after(n).living()) b -= 1 << i;
      return b;
    }

    int lasts(int t) {
      if (noTopic(t)) return no(-1);
      Model c = copy();
      for (int n = 0; n <= 60; n++) {
        if (!c.isWritten(t)) return n;
        c.step();
      }
      return -9;
    }

    int lost(int what) {
      if (what < 0 || what > 1) return no(-2);
      int best = -9, when = -9;
      for (int t : written()) {
        int l = lasts(t);
        if (l != -9 && (when == -9 || l < when)) {
          best = t;
          when = l;
        }
      }
      return what == 0 ? best : when;
    }

    int still(int what) {
      if (what < 0 || what > 1) return no(-2);
      Model c = copy();
      for (int n = 0; n <= 60; n++) {
        if (what == 1 && c.written().isEmpty()) return n;
        if (!c.step() && what == 0) return n;
      }
      return -9;
    }

    // ---- the book as it is

    int chapterOf(int i) {
      int n = 0;
      for (int t : written()) if (!people.get(i).dead && people.get(i).words[t] != 0) n++;
      return n;
    }

    int chapter(int i) {
      if (i == -1) {
        int best = -9;
        for (int j : living()) if (best == -9 || chapterOf(j) > chapterOf(best)) best = j;
        return best;
      }
      return nobody(i) ? no(-1) : chapterOf(i);
    }

    int quarrel(int t) {
      if (noTopic(t)) return no(-1);
      int best = -9, longest = -1;
      for (int a : living()) {
        for (int b : living()) {
          if (a == b) continue;
          Model c = copy();
          c.people.get(a).words[t] = 1;
          c.people.get(b).words[t] = 2;
          int l = c.lasts(t);
          if (l == -9) l = 1000;
          if (l > longest) {
            longest = l;
            best = 10 * a + b;
          }
        }
      }
      return best;
    }

    /** By trying every way of what those who live may say of a TOPIC. */
    int fewestChanges(int t, boolean toBeWritten, boolean onlyTakenBack) {
      List<Integer> who = living();
      int ways = 1, best = 100;
      for (int k = 0; k < who.size(); k++) ways *= 3;
      for (int way = 0; way < ways; way++) {
        int rest = way, changed = 0;
        boolean yes = false, no = false, may = true;
        for (int i : who) {
          int w = rest % 3;
          rest /= 3;
          if (w != people.get(i).words[t]) {
            changed++;
            if (onlyTakenBack && w != 0) may = false;
          }
          if (w == 1) yes = true;
          if (w == 2) no = true;
        }
        if (may && (yes && no) == toBeWritten) best = Math.min(best, changed);
      }
      return best;
    }

    int keeps() {
      if (living().size() < 2) return -9;
      int sum = 0;
      for (int t = 0; t < 8; t++) sum += fewestChanges(t, true, false);
      return sum;
    }

    int gives() {
      int sum = 0;
      for (int t = 0; t < 8; t++) sum += fewestChanges(t, false, true);
      return sum;
    }

    int silent(int what) {
      if (what < 0 || what > 1) return no(-2);
      int b = 0;
      for (int t = 0; t < 8; t++) {
        List<Integer> said = new ArrayList<>();
        for (int i : living()) if (people.get(i).words[t] != 0 && !said.contains(people.get(i).words[t])) said.add(people.get(i).words[t]);
        if (said.size() == what) b += 1 << t;
      }
      return b;
    }

    int lives(int n, int what) {
      if (yearsWrong(n, 0) != 0) return no(yearsWrong(n, 0));
      if (what < 0 || what > 1) return no(-2);
      int who = -9, least = 100;
      for (int i : living()) {
        Model c = copy();
        c.people.get(i).dead = true;
        int w = c.after(n).written().size();
        if (w < least) {
          least = w;
          who = i;
        }
      }
      return what == 0 ? who : who == -9 ? -9 : least;
    }

    int heir(int n) {
      if (yearsWrong(n, 0) != 0) return no(yearsWrong(n, 0));
      int who = -9, most = after(n).written().size();
      for (int i : living()) {
        Model c = copy();
        c.people.get(i).kind = 2;
        int w = c.after(n).written().size();
        if (w > most) {
          most = w;
          who = i;
        }
      }
      return who;
    }

    int falseWords(int t, int so) {
      int n = 0;
      for (int i : living()) if (people.get(i).words[t] != 0 && people.get(i).words[t] != so) n++;
      return n;
    }

    int so(int t) {
      if (t != -1 && noTopic(t)) return no(-1);
      if (t == -1) {
        int best = 1000;
        for (int way = 0; way < 256; way++) {
          int n = 0;
          for (int u = 0; u < 8; u++) n += falseWords(u, 1 + (way >> u & 1));
          best = Math.min(best, n);
        }
        return best;
      }
      if (falseWords(t, 0) == 0) return 0;
      return falseWords(t, 1) <= falseWords(t, 2) ? 1 : 2;
    }

    int leastLiars() {
      int best = -1;
      for (int set = 0; set < 64; set++) {
        Model c = copy();
        boolean may = true;
        for (int i = 0; i < 6; i++) {
          if ((set >> i & 1) == 0) continue;
          if (!canSpeak(i)) may = false;
          else c.people.get(i).words = new int[8];
        }
        if (may && c.written().isEmpty() && (best == -1 || Integer.bitCount(set) < Integer.bitCount(best))) best = set;
      }
      return best;
    }

    int denied(int a, int b) {
      int n = 0;
      for (int t = 0; t < 8; t++) {
        int u = people.get(a).words[t], v = people.get(b).words[t];
        if (u == 1 && v == 2 || u == 2 && v == 1) n++;
      }
      return n;
    }

    int pairs(List<Integer> who) {
      if (who.size() < 2) return 0;
      int a = who.get(0);
      List<Integer> rest = new ArrayList<>(who.subList(1, who.size()));
      int best = pairs(rest);
      for (int b : rest) {
        if (denied(a, b) == 0) continue;
        List<Integer> left = new ArrayList<>(rest);
        left.remove(Integer.valueOf(b));
        best = Math.max(best, 1 + pairs(left));
      }
      return best;
    }

    int differ(int what) {
      if (what < 0 || what > 2) return no(-2);
      if (what == 2) return pairs(living());
      int best = -9, most = -9;
      for (int a : living()) {
        for (int b : living()) {
          if (a < b && denied(a, b) > most) {
            most = denied(a, b);
            best = 10 * a + b;
          }
        }
      }
      return what == 0 ? best : most;
    }

    int friends(int i) {
      if (nobody(i)) return no(-1);
      if (people.get(i).dead) return no(-3);
      int b = 0;
      for (int j : living()) if (j != i && denied(i, j) == 0) b += 1 << j;
      return b;
    }

    // ---- games, odds, rows, lots

    int[] chaptersIf(int a, int ga, int b, int gb, int t, int n) {
      Model c = copy();
      if (ga == 1) c.people.get(a).words[t] = 0;
      if (gb == 1) c.people.get(b).words[t] = 0;
      c = c.after(n);
      return new int[] {c.chapterOf(a), c.chapterOf(b)};
    }

    int two(int a, int b, int t, int n) {
      if (nobody(a) || nobody(b) || a == b || noTopic(t)) return no(-1);
      if (yearsWrong(n, 0) != 0) return no(yearsWrong(n, 0));
      if (people.get(a).dead || people.get(b).dead) return no(-3);
      for (int pair = 0; pair < 4; pair++) {
        int ga = pair / 2, gb = pair % 2;
        int[] has = chaptersIf(a, ga, b, gb, t, n);
        if (chaptersIf(a, 1 - ga, b, gb, t, n)[0] <= has[0] && chaptersIf(a, ga, b, 1 - gb, t, n)[1] <= has[1]) return 10 * ga + gb;
      }
      return -9;
    }

    BigInteger weight(int t, int n, int odds) {
      if (n == 0) return isWritten(t) ? BigInteger.ONE : BigInteger.ZERO;
      Model cold = copy();
      for (Person p : cold.people) if (!p.dead) p.age = Math.min(99, p.age + 5);
      cold.step();
      return after(1).weight(t, n - 1, odds).multiply(BigInteger.valueOf(odds - 1)).add(cold.weight(t, n - 1, odds));
    }

    long fraction(BigInteger above, BigInteger below, int part) {
      if (above.signum() == 0) return part;
      BigInteger g = above.gcd(below);
      return (part == 0 ? above : below).divide(g).longValueExact();
    }

    long noLong(int number) {
      return 4000000000000000000L - no(number);
    }

    long winter(int t, int n, int odds, int part) {
      if (noTopic(t)) return noLong(-1);
      if (n < 0 || odds < 2) return noLong(-4);
      if (n > 7 || odds > 20) return noLong(-6);
      if (part < 0 || part > 1) return noLong(-2);
      return fraction(weight(t, n, odds), BigInteger.valueOf(odds).pow(n), part);
    }

    long mean(int part) {
      if (part < 0 || part > 1) return noLong(-2);
      return fraction(BigInteger.valueOf(count(5)), BigInteger.valueOf(living().size()), part);
    }

    int whatIs(int i, int t, int what) {
      if (nobody(i) || noTopic(t)) return no(-1);
      if (what < 0 || what > 1) return no(-2);
      int b = 0;
      for (int v = 0; v < (what == 0 ? 6 : 10); v++) {
        Model c = copy();
        if (what == 0) c.people.get(i).kind = v;
        else c.people.get(i).figure = v;
        boolean so = true;
        for (int n = 0; n < row.size(); n++) so &= c.after(n).people.get(i).words[t] == row.get(n);
        if (so) b += 1 << v;
      }
      return b;
    }

    int row(int v) {
      if (v < 0) return no(-4);
      if (v > 99 || row.size() == 16) return no(-6);
      row.add(v);
      return row.size();
    }

    int judge() {
      int found = -9;
      for (int n = row.size() - 1; n >= 0; n--) if (after(n).written().size() != row.get(n)) found = n;
      row.clear();
      return found;
    }

    int clear() {
      int had = row.size();
      row.clear();
      return had;
    }

    int lots(int n, int z, int what) {
      if (n < 1) return no(-4);
      if (n > 20) return no(-6);
      if (what < 0 || what > 1) return no(-2);
      int sum = 0;
      for (int k = 0; k < n; k++) {
        Model c = copy();
        for (int i : c.living()) {
          for (int t = 0; t < 8; t++) {
            z = z * 1664525 + 1013904223;
            c.people.get(i).words[t] = (z & 0x7fffffff) / 256 % 3;
          }
        }
        c = c.after(10);
        sum += what == 0 ? c.written().size() : c.living().size();
      }
      return sum;
    }

    int image() {
      image = copy();
      return year;
    }

    int on() {
      if (image == null) return no(-3);
      take(image);
      return year;
    }

    int count(int what) {
      int words = 0, ages = 0;
      for (int i : living()) {
        ages += people.get(i).age;
        for (int w : people.get(i).words) if (w != 0) words++;
      }
      switch (what) {
        case 0: return people.size();
        case 1: return year;
        case 2: return living().size();
        case 3: return written().size();
        case 4: return words;
        case 5: return ages;
        case 6: return row.size();
        case 7: return letters.length();
        default: return what > 10 && what < 17 ? refused[what - 10] : -9;
      }
    }
  }
}
