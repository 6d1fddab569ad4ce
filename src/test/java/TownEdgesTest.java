/** The edges that the document names of letters, a TOWN told, CITIZENS, WORDS and a YEAR: promises 1 to 11. */
public final class TownEdgesTest {
  private static final String KINDS = "chwflk";
  private static final String DIGITS = "0123456789";

  public static void main(String[] args) {
    newObject();
    letterRange();
    roomForLetters();
    longestTowns();
    spelling();
    spellingAheadOfSense();
    outOfRange();
    noSuchCitizenSoFar();
    oneTwiceOrDead();
    yearAbove999();
    noRoomForMore();
    firstFaultBehindAllAhead();
    allOrNothing();
    tellingOfWords();
    citizens();
    saidWords();
    whatIsWritten();
    agesAndDeaths();
    turns();
    yearsGoBy();
    deathOfAge();
    whoCounts();
    kindsInAYear();
    yearsThatDivide();
    byNumbers();
    Due.end();
  }

  // ---- promise 1

  private static void newObject() {
    Due.says(1, "No CITIZENS, YEAR 0");
    DeniedOfEachOther other = Due.town("cc000;cw000;q017;y05;");
    other.image();
    other.row(3);
    other.letter('c');
    other.word(9, 9);
    DeniedOfEachOther x = new DeniedOfEachOther();
    for (int what = 0; what <= 7; what++) Due.is("count(" + what + ")", x.count(what), 0);
    for (int what = 11; what <= 16; what++) Due.is("count(" + what + ")", x.count(what), 0);
    Due.is("citizen(0, 0)", x.citizen(0, 0), -1);
    Due.is("on()", x.on(), -3);
    Due.is("town()", x.town(), -1000);
    Due.is("judge()", x.judge(), -9);

    Due.says(1, "An object is used for at most 512 calls");
    DeniedOfEachOther busy = new DeniedOfEachOther();
    for (int i = 1; i < 512; i++) busy.letter(-1);
    Due.is("the 512th call", busy.count(14), 511);
    DeniedOfEachOther old = Due.town("cw000;cw000;q010;");
    for (int i = 19; i < 512; i++) old.years(1);
    Due.is("the 512th call", old.count(1), 493);
  }

  // ---- promise 2

  private static void letterRange() {
    Due.says(2, "A letter (0 .. 255) comes: how many there are");
    for (int c = 0; c <= 255; c++) Due.is("letter(" + c + ")", new DeniedOfEachOther().letter(c), 1);
    Due.says(2, "-4; -6 (255)");
    int[] below = {-1, -255, -256, Due.LEAST};
    int[] above = {256, 511, 65536 + 'c', Due.GREATEST};
    for (int c : below) Due.is("letter(" + c + ")", new DeniedOfEachOther().letter(c), -4);
    for (int c : above) Due.is("letter(" + c + ")", new DeniedOfEachOther().letter(c), -6);
    Due.says(2, "nothing changes");
    DeniedOfEachOther x = Due.letters(new DeniedOfEachOther(), "cc0");
    x.letter(-1);
    x.letter(256);
    Due.is("letter('0')", x.letter('0'), 4);
    Due.letters(x, "0;");
    Due.is("town()", x.town(), 1);
  }

  private static void roomForLetters() {
    Due.says(2, "-6 (96, too)");
    DeniedOfEachOther x = new DeniedOfEachOther();
    for (int i = 1; i <= 96; i++) Due.is("letter " + i, x.letter('d'), i);
    Due.is("letter 97", x.letter('d'), -6);
    Due.is("letter(0) as the 97th", x.letter(0), -6);
    Due.is("count(7)", x.count(7), 96);
    Due.is("town()", x.town(), -1001);
    for (int i = 1; i <= 96; i++) Due.is("letter " + i + " of the next text", x.letter('d'), i);
    Due.is("letter 97 of the next text", x.letter('d'), -6);
  }

  // ---- promise 3: places and spelling

  private static void longestTowns() {
    Due.says(3, "told in letters, one by one (96 at most)");
    DeniedOfEachOther x = new DeniedOfEachOther();
    Due.is("town() of 96 letters", Due.tell(x, "cc000;" + "w000;".repeat(17) + "w072;"), 19);
    Due.is("word(0, 7)", x.word(0, 7), 2);
    dueOf("cc000;cc000;" + "w000;".repeat(16) + "w001", -1096);
    dueOf("cc000;" + "w000;".repeat(17) + "w001x", -1095);
    dueOf("cc000;" + "w000;".repeat(17) + "w010;", 19);
    dueOf("cc000;" + "w000;".repeat(17) + "w080;", -2091);
    dueOf("cc000;" + "w000;".repeat(16) + "y01;d0;d0;", -2093);
    dueOf("cc000;" + "w000;".repeat(18), 19);
    dueOf("cc000;" + "y01;".repeat(22), 23);
    dueOf("d".repeat(96), -1001);
  }

  /** A text told to a new object. */
  private static void dueOf(String text, int want) {
    Due.is("town() of \"" + text + "\"", Due.tell(new DeniedOfEachOther(), text), want);
  }

  private static void spelling() {
    String[] statements = {"ch305;", "ck999;", "w012;", "w999;", "q010;", "q998;", "d1;", "y07;", "y99;", "a01;", "a0120;", "a101201202;", "a999999999;"};
    String[] ahead = {"", "cc000;cw000;", "w999;"};
    for (String statement : statements) {
      for (String a : ahead) {
        for (int begun = 0; begun < statement.length(); begun++) spellingBehind(a, statement.substring(0, begun));
      }
    }
    Due.says(3, "(the end, if something lacks); At least one STATEMENT");
    dueOf("", -1000);
    DeniedOfEachOther x = Due.town("cc000;");
    Due.is("town() behind a TOWN", x.town(), -1000);
    dueOf(" ", -1000);
    dueOf(";", -1000);
    dueOf("cc000;;", -1006);
  }

  /** Each of the 256 letters behind a text that a TOWN begins with. */
  private static void spellingBehind(String ahead, String begun) {
    Due.says(3, "the place of the first letter with which no TOWN can go on (the end, if something lacks)");
    int place = ahead.length() + begun.length();
    for (int c = 0; c <= 255; c++) {
      String text = ahead + begun + (char) c;
      boolean fits = mayFollow(begun).indexOf(c) >= 0;
      if (!fits) {
        dueOf(text, -1000 - place);
        dueOf(text + "00;", -1000 - place);
      } else if (c != ';') {
        dueOf(text, -1000 - place - 1);
      } else {
        int answer = Due.tell(new DeniedOfEachOther(), text);
        Due.must("\"" + text + "\" is well spelt", answer > 0 || answer <= -2000);
      }
    }
  }

  private static String mayFollow(String begun) {
    int size = begun.length();
    if (size == 0) return "cwaqdy";
    switch (begun.charAt(0)) {
      case 'c': return size == 1 ? KINDS : size <= 4 ? DIGITS : ";";
      case 'd': return size == 1 ? DIGITS : ";";
      case 'y': return size <= 2 ? DIGITS : ";";
      case 'a': return size <= 2 ? DIGITS : size <= 9 ? DIGITS + ";" : ";";
      default: return size <= 3 ? DIGITS : ";";
    }
  }

  private static void spellingAheadOfSense() {
    Due.says(3, "else kind 2");
    dueOf("w000;x", -1005);
    dueOf("w000;w00", -1008);
    dueOf("y61;d", -1005);
    dueOf("w000;" + "cc000;".repeat(15) + "c", -1096);
  }

  // ---- promise 3: what is not as it must be

  private static void outOfRange() {
    Due.says(3, "a number out of range");
    for (int n = 0; n <= 9; n++) {
      dueOf("cc000;w0" + n + "0;", n <= 7 ? 2 : -2006);
      dueOf("cc000;w00" + n + ";", n <= 2 ? 2 : -2006);
      dueOf("cc000;a0" + n + ";", n <= 2 ? 2 : -2006);
      dueOf("cc000;a00000" + n + "00;", n <= 2 ? 2 : -2006);
      dueOf("cc000;a00000000" + n + ";", n <= 2 ? 2 : -2006);
      dueOf("cc000;cc000;q01" + n + ";", n <= 7 ? 3 : -2012);
    }
    Due.says(3, "y: YEARS (2 digits, 1 .. 60)");
    for (int n = 0; n <= 99; n++) dueOf("y" + n / 10 + n % 10 + ";", n >= 1 && n <= 60 ? 1 : -2000);
    Due.says(3, "c: FIGURE (a digit), AGE (2 digits)");
    for (int n = 0; n <= 99; n++) {
      DeniedOfEachOther x = new DeniedOfEachOther();
      Due.is("town()", Due.tell(x, "cc" + n % 10 + n / 10 + n % 10 + ";"), 1);
      Due.is("FIGURE", x.citizen(0, 1), n % 10);
      Due.is("AGE", x.citizen(0, 2), n);
      Due.is("DEAD", x.citizen(0, 3), 0);
    }
  }

  private static void noSuchCitizenSoFar() {
    Due.says(3, "no such CITIZEN so far");
    for (int size = 0; size <= 6; size++) {
      String people = "cc000;".repeat(size);
      int place = 6 * size;
      for (int i = 0; i <= 9; i++) {
        int want = i < size ? size + 1 : -2000 - place;
        dueOf(people + "w" + i + "00;", want);
        dueOf(people + "a" + i + "0;", want);
        dueOf(people + "d" + i + ";", want);
        if (size < 2) continue;
        if (i != 0) dueOf(people + "q0" + i + "0;", want);
        if (i != 1) dueOf(people + "q" + i + "10;", want);
      }
    }
    dueOf("w000;cc000;", -2000);
    dueOf("a00;cc000;", -2000);
    dueOf("d0;cc000;", -2000);
    dueOf("cc000;q010;cc000;", -2006);
    dueOf("cc000;q100;cc000;", -2006);
    DeniedOfEachOther x = Due.town("cc000;");
    Due.is("town() of one told before", Due.tell(x, "w001;cc000;q107;"), 3);
  }

  private static void oneTwiceOrDead() {
    Due.says(3, "one twice");
    String all = "cc000;".repeat(6);
    for (int i = 0; i <= 5; i++) {
      for (int j = 0; j <= 5; j++) dueOf(all + "q" + i + j + "7;", i == j ? -2036 : 7);
    }
    Due.says(3, "one DEAD (of w, a, q, d)");
    String[] ofZero = {"w000;", "a00;", "q010;", "q100;", "d0;"};
    for (String s : ofZero) {
      dueOf("cc000;cc000;d0;" + s, -2015);
      dueOf("cc000;cc000;d1;d0;" + s, -2018);
      dueOf("cc059;cc000;y01;" + s, -2016);
      dueOf("cc058;cc000;y01;" + s, 4);
      DeniedOfEachOther x = Due.town("cc000;cc000;");
      x.dies(0);
      Due.is("town() of \"" + s + "\" when 0 is DEAD", Due.tell(x, s), -2000);
    }
    Due.is("y and c when all are DEAD", Due.tell(Due.town("cc000;d0;"), "y60;cc000;w101;"), 3);
  }

  private static void yearAbove999() {
    Due.says(3, "YEAR above 999");
    dueInYear(999, "y01;", -2000);
    dueInYear(998, "y01;", 1);
    dueInYear(998, "y02;", -2000);
    dueInYear(939, "y60;", 1);
    dueInYear(940, "y60;", -2000);
    dueInYear(940, "y59;", 1);
    dueInYear(990, "y05;y04;", 2);
    dueInYear(990, "y05;y05;", -2004);
    dueInYear(990, "y05;w000;y05;", -2004);
    dueInYear(999, "cc000;w001;", 2);
    dueOf("y60;".repeat(16) + "y39;", 17);
    dueOf("y60;".repeat(16) + "y40;", -2064);
    dueOf("y60;".repeat(16) + "y39;y01;", -2068);
  }

  private static void dueInYear(int year, String text, int want) {
    Due.is("in YEAR " + year + " town() of \"" + text + "\"", Due.tell(Due.inYear(year), text), want);
  }

  private static void noRoomForMore() {
    Due.says(3, "no room for more (CITIZENS 6 at most)");
    dueOf("cc000;".repeat(6), 6);
    dueOf("cc000;".repeat(7), -2036);
    dueOf("cc000;".repeat(6) + "d0;d5;cc000;", -2042);
    DeniedOfEachOther x = Due.town("cc000;".repeat(5), "cc000;");
    Due.is("count(0)", x.count(0), 6);
    Due.is("one more", Due.tell(x, "cw000;"), -2000);
    Due.is("count(0)", x.count(0), 6);
    for (int i = 0; i < 6; i++) x.dies(i);
    Due.is("one more than six DEAD", Due.tell(x, "cw000;"), -2000);
    Due.is("two more than five, the second", Due.tell(Due.town("cc000;".repeat(5)), "cc000;cc000;"), -2006);
  }

  private static void firstFaultBehindAllAhead() {
    Due.says(3, "the first STATEMENT that, behind all ahead of it in the text, is not as it must be");
    dueOf("cc000;w080;d5;y99;", -2006);
    dueOf("cc000;d5;w080;y99;", -2006);
    dueOf("cc000;w000;y99;d5;w080;", -2011);
    dueOf("cc000;d0;d0;", -2009);
    dueOf("cc058;y01;w000;y01;w000;", -2019);
    dueOf("cc058;y01;w000;y01;y01;", 5);
    DeniedOfEachOther x = new DeniedOfEachOther();
    Due.is("the last of two words", Due.tell(x, "cc000;w001;w002;"), 3);
    Due.is("word(0, 0)", x.word(0, 0), 2);
    Due.says(3, "AGE (2 digits): a CITIZEN more, as old as told when YEARS go by ahead of him");
    Due.is("town()", Due.tell(x, "y05;cc000;y03;"), 3);
    Due.is("AGE of 0", x.citizen(0, 2), 8);
    Due.is("AGE of 1", x.citizen(1, 2), 3);
  }

  private static void allOrNothing() {
    String[] faulty = {"w001;q120;d2;ck999;y09;d2;", "w001;q120;d2;ck999;y09;d", "x", "", "w080;"};
    for (String text : faulty) {
      Due.says(3, "Without FAULT all of it comes, with one nothing");
      DeniedOfEachOther x = threeAndAnImage();
      DeniedOfEachOther twin = threeAndAnImage();
      int answer = Due.tell(x, text);
      Due.must("town() of \"" + text + "\" is a FAULT", answer <= -1000);
      sameTown(x, twin);
      for (int what = 3; what <= 6; what++) Due.is("count(" + what + ")", x.count(what), twin.count(what));
      Due.says(3, "The letters become a TOWN, and are no more (with a FAULT neither)");
      Due.is("count(7)", x.count(7), 0);
      Due.is("letter('y')", x.letter('y'), 1);
      Due.says(3, "the FAULT (nothing is counted)");
      for (int what = 11; what <= 16; what++) Due.is("count(" + what + ")", x.count(what), 0);
      Due.is("on()", x.on(), 0);
      twin.on();
      sameTown(x, twin);
    }
    Due.says(3, "The letters become a TOWN, and are no more");
    Due.is("count(7)", Due.town("cc000;").count(7), 0);
  }

  private static DeniedOfEachOther threeAndAnImage() {
    DeniedOfEachOther x = Due.town("cc340;cw210;cf525;q010;");
    x.image();
    Due.tell(x, "y02;q127;");
    return Due.withRow(x, 2, 2);
  }

  private static void sameTown(DeniedOfEachOther x, DeniedOfEachOther twin) {
    for (int what = 0; what <= 2; what++) Due.is("count(" + what + ")", x.count(what), twin.count(what));
    for (int i = 0; i < 3; i++) {
      for (int what = 0; what <= 5; what++) Due.is("citizen(" + i + ", " + what + ")", x.citizen(i, what), twin.citizen(i, what));
      for (int t = 0; t <= 7; t++) Due.is("word(" + i + ", " + t + ")", x.word(i, t), twin.word(i, t));
    }
  }

  private static void tellingOfWords() {
    Due.says(3, "a: WORDS (a digit each, 1 to 8 of them): of TOPICS 0, 1, ..");
    for (int told = 1; told <= 8; told++) {
      DeniedOfEachOther x = Due.town("cc000;a022222222;", "a0" + "10".repeat(4).substring(0, told) + ";");
      for (int t = 0; t <= 7; t++) Due.is("word(0, " + t + ") of " + told, x.word(0, t), t >= told ? 2 : t % 2 == 0 ? 1 : 0);
    }
    Due.says(3, "w: a CITIZEN, a TOPIC, a WORD");
    for (int t = 0; t <= 7; t++) {
      for (int w = 0; w <= 2; w++) {
        DeniedOfEachOther x = Due.town("cc000;cc000;a022222222;w0" + t + w + ";");
        for (int u = 0; u <= 7; u++) Due.is("word(0, " + u + ")", x.word(0, u), u == t ? w : 2);
        Due.is("word(1, " + t + ")", x.word(1, t), 0);
      }
    }
    Due.says(3, "q: the first says yes, the other no");
    DeniedOfEachOther x = Due.town("cc000;cc000;cc000;a20;w002;w101;q017;q010;");
    Due.is("word(0, 7)", x.word(0, 7), 1);
    Due.is("word(1, 7)", x.word(1, 7), 2);
    Due.is("word(0, 0)", x.word(0, 0), 1);
    Due.is("word(1, 0)", x.word(1, 0), 2);
    Due.is("word(2, 0)", x.word(2, 0), 0);
    Due.is("word(0, 6)", x.word(0, 6), 0);
  }

  // ---- promises 4 to 7

  private static void citizens() {
    Due.says(4, "0 KIND (0 c, 1 h, 2 w, 3 f, 4 l, 5 k), 1 FIGURE, 4 LIFE");
    int[] life = {60, 50, 80, 60, 65, 85};
    for (int k = 0; k < 6; k++) {
      for (int f = 0; f <= 9; f++) {
        DeniedOfEachOther x = Due.town("c" + KINDS.charAt(k) + f + "00;");
        Due.is("KIND", x.citizen(0, 0), k);
        Due.is("FIGURE", x.citizen(0, 1), f);
        Due.is("LIFE of " + KINDS.charAt(k) + f, x.citizen(0, 4), life[k] + f);
        x.turn(0, 0, 0);
        x.turn(0, k, f);
        Due.is("LIFE of one turned to " + KINDS.charAt(k) + f, x.citizen(0, 4), life[k] + f);
      }
    }
    Due.says(4, "2 AGE, 3 DEAD (1, 0)");
    DeniedOfEachOther x = Due.town("cc000;cc099;cc000;cc000;cc000;cc042;d5;");
    Due.is("citizen(0, 2)", x.citizen(0, 2), 0);
    Due.is("citizen(1, 2)", x.citizen(1, 2), 99);
    Due.is("citizen(5, 2)", x.citizen(5, 2), 42);
    for (int i = 0; i < 6; i++) Due.is("citizen(" + i + ", 3)", x.citizen(i, 3), i == 5 ? 1 : 0);
    Due.says(4, "5 of how many TOPICS he says something");
    for (int said = 0; said <= 8; said++) {
      Due.is("citizen(0, 5)", x.citizen(0, 5), said);
      if (said < 8) x.says(0, said, 1 + said % 2);
    }
    Due.is("citizen(4, 5)", x.citizen(4, 5), 0);
  }

  private static void saidWords() {
    Due.says(5, "of each TOPIC a WORD: 0 nothing (at first), 1 yes, 2 no");
    DeniedOfEachOther x = Due.town("cc000;".repeat(6));
    for (int i = 0; i < 6; i++) {
      for (int t = 0; t <= 7; t++) Due.is("word(" + i + ", " + t + ")", x.word(i, t), 0);
    }
    Due.says(7, "A WORD becomes another one: what it was");
    int[] lot = {1, 1, 2, 2, 0, 0, 2, 1, 0};
    int was = 0;
    for (int w : lot) {
      Due.is("says(5, 7, " + w + ")", x.says(5, 7, w), was);
      Due.is("word(5, 7)", x.word(5, 7), w);
      was = w;
    }
    x.says(5, 7, 2);
    Due.is("word(5, 6)", x.word(5, 6), 0);
    Due.is("word(4, 7)", x.word(4, 7), 0);
    Due.is("says(0, 0, 1)", x.says(0, 0, 1), 0);
    x.dies(5);
    Due.says(5, "A WORD (of one DEAD, too)");
    Due.is("word(5, 7)", x.word(5, 7), 2);
  }

  private static void whatIsWritten() {
    Due.says(6, "a TOPIC of which one who lives says yes and one who lives says no (bits)");
    Due.is("written() of nobody", new DeniedOfEachOther().written(), 0);
    for (int t = 0; t <= 7; t++) Due.is("written()", Due.town("cc000;cc000;q01" + t + ";").written(), 1 << t);
    Due.is("written() of all", Due.town("cc000;cc000;a011111111;a122222222;").written(), 255);
    DeniedOfEachOther x = Due.town("cc000;".repeat(6) + "w501;w012;w511;");
    Due.is("written() with a yes, and with both", x.written(), 2);
    x.says(0, 0, 2);
    Due.is("written()", x.written(), 3);
    x.says(5, 0, 2);
    Due.is("written() when all say no", x.written(), 2);
    x.says(5, 0, 1);
    x.dies(5);
    Due.is("written() when who says yes is DEAD", x.written(), 0);
    DeniedOfEachOther y = Due.town("cc000;cc000;cc000;q010;w202;d1;");
    Due.is("written() when another one says no", y.written(), 1);
    y.dies(2);
    Due.is("written() when who say no are DEAD", y.written(), 0);
  }

  // ---- promises 8 to 10

  private static void agesAndDeaths() {
    Due.says(8, "AGE becomes v: what it was. -6 99");
    DeniedOfEachOther x = Due.town("cc307;".repeat(6));
    Due.is("ages(5, 0)", x.ages(5, 0), 7);
    Due.is("ages(5, 99)", x.ages(5, 99), 0);
    Due.is("ages(5, 99)", x.ages(5, 99), 99);
    Due.is("ages(5, 1)", x.ages(5, 1), 99);
    Due.is("citizen(5, 2)", x.citizen(5, 2), 1);
    Due.is("citizen(4, 2)", x.citizen(4, 2), 7);
    Due.says(8, "DEAD then: in a YEAR, not at once");
    x.ages(0, 99);
    Due.is("citizen(0, 3)", x.citizen(0, 3), 0);
    Due.is("count(2)", x.count(2), 6);
    Due.says(9, "He is DEAD: how many live");
    for (int i = 5; i >= 0; i--) {
      Due.is("dies(" + i + ")", x.dies(i), i);
      Due.is("citizen(" + i + ", 3)", x.citizen(i, 3), 1);
      Due.is("dies(" + i + ") again", x.dies(i), -3);
    }
    Due.says(8, "AGE becomes v: what it was (of one DEAD, too)");
    Due.is("ages(0, 3)", x.ages(0, 3), 99);
    Due.is("citizen(0, 3)", x.citizen(0, 3), 1);
    x.years(1);
    Due.is("the DEAD grow no older", x.citizen(0, 2), 3);
  }

  private static void turns() {
    Due.says(10, "KIND, FIGURE become others: 10 times the KIND and the FIGURE it had");
    DeniedOfEachOther x = Due.town("cc000;".repeat(6));
    int was = 0;
    for (int k = 5; k >= 0; k--) {
      for (int f = 9; f >= 0; f--) {
        Due.is("turn(5, " + k + ", " + f + ")", x.turn(5, k, f), was);
        was = 10 * k + f;
      }
    }
    x.turn(5, 5, 9);
    Due.is("citizen(5, 0)", x.citizen(5, 0), 5);
    Due.is("citizen(5, 1)", x.citizen(5, 1), 9);
    Due.is("citizen(4, 0)", x.citizen(4, 0), 0);
    x.dies(5);
    Due.is("turn of one DEAD", x.turn(5, 1, 2), 59);
    Due.is("he is DEAD still", x.citizen(5, 3), 1);
  }

  // ---- promise 11

  private static void yearsGoBy() {
    Due.says(11, "n YEARS (1 .. 60) go by");
    for (int n = 1; n <= 60; n++) {
      DeniedOfEachOther x = Due.town("cw000;cw000;q010;q017;");
      Due.is("years(" + n + ")", x.years(n), 2);
      Due.is("count(1)", x.count(1), n);
      Due.is("citizen(0, 2)", x.citizen(0, 2), n);
    }
    Due.says(11, "-4; -6 (60; YEAR above 999)");
    DeniedOfEachOther x = Due.inYear(939);
    Due.is("years(61)", x.years(61), -6);
    Due.is("years(0)", x.years(0), -4);
    Due.is("years(60)", x.years(60), 0);
    Due.is("count(1)", x.count(1), 999);
    Due.is("years(1) in 999", x.years(1), -6);
    Due.is("years(60) in 999", x.years(60), -6);
    Due.is("years(0) in 999", x.years(0), -4);
    Due.is("count(1)", x.count(1), 999);
    Due.is("years(60) in 940", Due.inYear(940).years(60), -6);
    Due.is("years(59) in 940", Due.inYear(940).years(59), 0);
    Due.is("years(1) in 998", Due.inYear(998).years(1), 0);
    Due.is("years(2) in 998", Due.inYear(998).years(2), -6);
  }

  private static void deathOfAge() {
    Due.says(11, "whose AGE is LIFE or more is DEAD then");
    int[] life = {60, 50, 80, 60, 65, 85};
    for (int k = 0; k < 6; k++) {
      for (int f = 0; f <= 9; f += 3) {
        int last = life[k] + f - 1;
        dueAtAge(k, f, last - 1, 0);
        dueAtAge(k, f, last, 1);
        dueAtAge(k, f, last + 1, 1);
        dueAtAge(k, f, 99, 1);
      }
    }
    Due.says(11, "all who live are 1 older (99 at most)");
    DeniedOfEachOther x = Due.town("ck998;ck999;ck900;ck950;d3;");
    x.years(1);
    Due.is("one of 98", x.citizen(0, 2), 99);
    Due.is("one of 99", x.citizen(1, 2), 99);
    Due.is("one of 0", x.citizen(2, 2), 1);
    Due.is("one DEAD", x.citizen(3, 2), 50);
    x.years(60);
    Due.is("one DEAD of age", x.citizen(0, 2), 99);
    Due.is("one of 1", x.citizen(2, 2), 61);
    Due.is("count(5)", x.count(5), 61);
  }

  private static void dueAtAge(int kind, int figure, int age, int dead) {
    DeniedOfEachOther x = Due.town("c" + KINDS.charAt(kind) + figure + age / 10 + age % 10 + ";");
    x.years(1);
    Due.is("DEAD of " + KINDS.charAt(kind) + figure + " who was " + age, x.citizen(0, 3), dead);
  }

  private static void whoCounts() {
    Due.says(11, "then all who live: those who die in the YEAR say nothing more and change nothing");
    DeniedOfEachOther x = Due.town("ch049;ch000;w001;w101;y01;");
    Due.is("word of the one who dies", x.word(0, 0), 1);
    Due.is("word of the one who lives", x.word(1, 0), 0);
    DeniedOfEachOther dead = Due.town("ch000;cl000;w001;w101;d0;d1;y02;");
    Due.is("a HIRED one who was DEAD", dead.word(0, 0), 1);
    Due.is("a LIAR who was DEAD", dead.word(1, 0), 1);

    Due.says(11, "FOR are those who live and say the same (he, too), AGAINST those who live and say the other");
    Due.is("0 alone against two", Due.town("cc000;cw000;cw000;w001;w102;w202;y01;").word(0, 0), 0);
    Due.is("one of the two dies that YEAR", Due.town("cc000;cw079;cw000;w001;w102;w202;y01;").word(0, 0), 1);
    Due.is("one of the two is DEAD", Due.town("cc000;cw000;cw000;w001;w102;w202;d2;y01;").word(0, 0), 1);
    Due.is("one says nothing", Due.town("cc000;cw000;cw000;w001;w102;y01;").word(0, 0), 1);
    Due.is("one stands by him", Due.town("cc000;cw000;cw000;cw000;w001;w102;w202;w301;y01;").word(0, 0), 1);
    Due.is("who stood by him dies that YEAR", Due.town("cc000;cw000;cw000;cw079;w001;w102;w202;w301;y01;").word(0, 0), 0);
    Due.is("who stood by him is DEAD", Due.town("cc000;cw000;cw000;cw000;w001;w102;w202;w301;d3;y01;").word(0, 0), 0);
    Due.is("he says it of another TOPIC", Due.town("cc000;cw000;cw000;cw000;w001;w102;w202;w311;y01;").word(0, 0), 0);
  }

  /** What the one of the KIND does: = keeps his word, 0 says nothing more, ! says the other; AGAINST 0, 1, 2, 3. */
  private static void kindsInAYear() {
    String[] alone = {"==00", "==00", "====", "==!!", "==!!", "0==="};
    String[] withOthers = {"====", "====", "====", "====", "====", "0==="};
    for (int k = 0; k < 6; k++) {
      for (int against = 0; against <= 3; against++) {
        dueOfKind(k, 9, 1, against, alone[k].charAt(against));
        dueOfKind(k, 9, 2, against, withOthers[k].charAt(against));
        dueOfKind(k, 9, 3, against, withOthers[k].charAt(against));
      }
      dueOfKind(k, 9, 1, 4, alone[k].charAt(3));
      dueOfKind(k, 9, 1, 5, alone[k].charAt(3));
      dueOfKind(k, 9, 2, 4, withOthers[k].charAt(3));
      dueOfKind(k, 9, 6, 0, withOthers[k].charAt(0));
    }
    for (int size = 1; size <= 3; size++) {
      for (int against = 0; against <= 3; against++) {
        dueOfKind(1, 0, size, against, '0');
        dueOfKind(1, 1, size, against, '0');
        dueOfKind(4, 0, size, against, '!');
      }
    }
  }

  /** The YEAR that comes is 2: a FIGURE of 9 has no part in it. */
  private static void dueOfKind(int kind, int figure, int size, int against, char deed) {
    Due.says(11, "KINDS of CITIZENS, what he does then");
    for (int word = 1; word <= 2; word++) {
      DeniedOfEachOther x = Due.town("y01;c" + KINDS.charAt(kind) + figure + "00;" + "cw000;".repeat(size + against - 1));
      for (int i = 0; i < size + against; i++) x.says(i, 7, i < size ? word : 3 - word);
      x.years(1);
      int want = deed == '=' ? word : deed == '0' ? 0 : 3 - word;
      String who = "the word of " + KINDS.charAt(kind) + figure + " who said " + word + ", FOR " + size + ", AGAINST " + against;
      Due.is(who, x.word(0, 7), want);
      for (int t = 0; t <= 6; t++) Due.is(who + " about TOPIC " + t, x.word(0, t), 0);
      for (int i = 1; i < size + against; i++) Due.is("a WIDOW's word", x.word(i, 7), i < size ? word : 3 - word);
    }
  }

  private static void yearsThatDivide() {
    for (int figure = 0; figure <= 9; figure++) {
      DeniedOfEachOther x = Due.town("ch" + figure + "00;cl" + figure + "00;");
      for (int year = 1; year <= 40; year++) {
        x.says(0, 0, 1);
        x.says(1, 7, 2);
        x.years(1);
        Due.says(11, "h: in YEARS that FIGURE and 1 divide he says nothing more");
        Due.is("figure " + figure + " in YEAR " + year, x.word(0, 0), year % (figure + 1) == 0 ? 0 : 1);
        Due.says(11, "l: in YEARS that FIGURE and 2 divide he says the other");
        Due.is("figure " + figure + " in YEAR " + year, x.word(1, 7), year % (figure + 2) == 0 ? 1 : 2);
      }
      DeniedOfEachOther late = Due.inYear(980);
      Due.tell(late, "ch" + figure + "00;cl" + figure + "00;");
      for (int year = 981; year <= 999; year++) {
        late.says(0, 0, 1);
        late.says(1, 7, 2);
        late.years(1);
        Due.is("HIRED of " + figure + " in YEAR " + year, late.word(0, 0), year % (figure + 1) == 0 ? 0 : 1);
        Due.is("LIAR of " + figure + " in YEAR " + year, late.word(1, 7), year % (figure + 2) == 0 ? 1 : 2);
      }
    }
  }

  private static void byNumbers() {
    Due.says(11, "then all who live, by numbers (as it is then)");
    // Of three fools against two, all stay; of two who are each alone, the first turns to the other's side.
    DeniedOfEachOther x = Due.town("cf000;cf000;cw000;cw000;w001;w102;w202;w302;y01;");
    Due.is("0 was alone", x.word(0, 0), 2);
    DeniedOfEachOther y = Due.town("cl000;cl000;cw000;w001;w102;w202;y02;");
    // YEAR 1: 0 is alone against two: no. YEAR 2: 0 says yes, then 1 says yes.
    Due.is("word(0, 0)", y.word(0, 0), 1);
    Due.is("word(1, 0)", y.word(1, 0), 1);
    // 0 (HIRED, each YEAR) falls silent ahead of 1, who is alone against two then.
    DeniedOfEachOther z = Due.town("ch000;cc000;cw000;cw000;w001;w101;w202;w302;y01;");
    Due.is("word(1, 0) behind 0", z.word(1, 0), 0);
    DeniedOfEachOther v = Due.town("cc000;ch000;cw000;cw000;w001;w101;w202;w302;y01;");
    Due.is("word(0, 0) ahead of 1", v.word(0, 0), 1);
    v.years(1);
    Due.is("word(0, 0) a YEAR later", v.word(0, 0), 0);
    Due.says(11, "each his TOPICS by numbers, of which he says something");
    DeniedOfEachOther all = Due.town("ch000;cl000;a012121212;a121212121;y02;");
    for (int t = 0; t <= 7; t++) {
      Due.is("word(0, " + t + ")", all.word(0, t), 0);
      Due.is("word(1, " + t + ")", all.word(1, t), 1 + t % 2);
    }
  }
}
