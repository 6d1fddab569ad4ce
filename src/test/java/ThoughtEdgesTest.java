import java.math.BigInteger;

/** The edges that the document names behind "====" and in promises 12 to 36: every -9, every "of several", every limit that is taken. */
public final class ThoughtEdgesTest {
  private static final long[] NINETEEN_TO = {1, 19, 361, 6859, 130321, 2476099, 47045881, 893871739};
  private static final long[] TWENTY_TO = {1, 20, 400, 8000, 160000, 3200000, 64000000, 1280000000};

  public static void main(String[] args) {
    yearsOn();
    above999InThought();
    lasts();
    lost();
    still();
    empty();
    chapters();
    quarrels();
    keeps();
    silentAndAgreed();
    lives();
    heirs();
    so();
    leastLiars();
    differ();
    pairs();
    friends();
    gives();
    two();
    winters();
    fractions();
    means();
    kindsByRow();
    figuresByRow();
    rows();
    judged();
    lots();
    draws();
    Due.end();
  }

  /** The CITIZEN 0 has 1 beside him against 2 and 3; when 1 is 80, 0 falls silent and nothing is WRITTEN. */
  private static DeniedOfEachOther fallsSilentWhen1Is80(int ageOf1) {
    return Due.town("cc900;cw0" + ageOf1 / 10 + ageOf1 % 10 + ";cw000;cw000;w001;w101;w202;w302;");
  }

  // ---- promises 12 to 17

  private static void yearsOn() {
    DeniedOfEachOther x = fallsSilentWhen1Is80(20);
    DeniedOfEachOther later = fallsSilentWhen1Is80(19);
    for (int n = 0; n <= 60; n++) {
      int behind = n < 60 ? 1 : 0;
      Due.says(12, "In mind, n YEARS on (0 .. 60): what is WRITTEN (bits of TOPICS)");
      Due.is("writtenThen(" + n + ")", x.writtenThen(n), behind);
      Due.is("writtenThen(" + n + ") of the later", later.writtenThen(n), 1);
      Due.says(13, "In mind, n YEARS on (0 .. 60): a WORD");
      Due.is("wordThen(0, 0, " + n + ")", x.wordThen(0, 0, n), behind);
      Due.is("wordThen(0, 0, " + n + ") of the later", later.wordThen(0, 0, n), 1);
      Due.says(14, "In mind, n YEARS on (0 .. 60): who is DEAD (bits)");
      Due.is("deadThen(" + n + ")", x.deadThen(n), n < 60 ? 0 : 2);
      Due.is("deadThen(" + n + ") of the later", later.deadThen(n), 0);
    }
    Due.says(13, "a WORD: of each CITIZEN, each TOPIC");
    DeniedOfEachOther full = Due.town("ck900;".repeat(6) + "a012121212;a521212121;");
    for (int t = 0; t <= 7; t++) {
      Due.is("wordThen(0, " + t + ", 60)", full.wordThen(0, t, 60), 1 + t % 2);
      Due.is("wordThen(4, " + t + ", 60)", full.wordThen(4, t, 60), 0);
      Due.is("wordThen(5, " + t + ", 60)", full.wordThen(5, t, 60), 2 - t % 2);
    }
    Due.says(12, "bits of TOPICS");
    Due.is("writtenThen(60)", full.writtenThen(60), 255);
    Due.is("writtenThen(60) of nobody", new DeniedOfEachOther().writtenThen(60), 0);
    Due.says(14, "who is DEAD (bits)");
    Due.is("deadThen(60) of nobody", new DeniedOfEachOther().deadThen(60), 0);
    Due.is("deadThen(60) of six", Due.town("ch000;".repeat(6)).deadThen(60), 63);
    Due.is("deadThen(0) of one DEAD", Due.town("ch000;".repeat(6) + "d5;").deadThen(0), 32);
  }

  private static void above999InThought() {
    DeniedOfEachOther x = Due.inYear(999);
    Due.tell(x, "ch900;cw000;cw079;q010;");
    Due.says(12, "(In thought YEAR may pass 999.)");
    Due.is("writtenThen(0)", x.writtenThen(0), 1);
    Due.is("writtenThen(1), in 1000", x.writtenThen(1), 0);
    Due.is("writtenThen(60)", x.writtenThen(60), 0);
    Due.is("wordThen(0, 0, 1)", x.wordThen(0, 0, 1), 0);
    Due.is("wordThen(1, 0, 60)", x.wordThen(1, 0, 60), 2);
    Due.is("deadThen(1)", x.deadThen(1), 4);
    Due.is("lasts(0)", x.lasts(0), 1);
    Due.is("lost(1)", x.lost(1), 1);
    Due.is("still(0)", x.still(0), 1);
    Due.is("still(1)", x.still(1), 1);
    Due.is("quarrel(5): whoever dies or is HIRED, all end in 1000", x.quarrel(5), 1);
    Due.is("lives(1, 1)", x.lives(1, 1), 0);
    Due.is("heir(1): HIRED no more", x.heir(1), 0);
    Due.is("two(0, 1, 0, 60)", x.two(0, 1, 0, 60), 0);
    Due.is("winter(0, 7, 20, 0)", x.winter(0, 7, 20, 0), 0);
    Due.is("lots(1, 1, 1)", x.lots(1, 1, 1), 2);
    Due.withRow(x, 1, 0);
    Due.is("whatIs(0, 0, 0): HIRED alone", x.whatIs(0, 0, 0), 2);
    Due.is("whatIs(0, 0, 1): 1, 2, 4, 5, 8, 10 divide 1000", x.whatIs(0, 0, 1), 1 + 2 + 8 + 16 + 128 + 512);
    Due.is("judge()", x.judge(), -9);
    Due.is("count(1)", x.count(1), 999);
  }

  private static void lasts() {
    Due.says(15, "behind how many YEARS (0 .. 60) a TOPIC is WRITTEN no more (0 it is not now); -9");
    for (int age = 19; age <= 79; age++) {
      int want = age == 19 ? -9 : 80 - age;
      Due.is("lasts(7) of one of " + age, Due.town("cw0" + age + ";cw000;q017;").lasts(7), want);
    }
    Due.is("lasts(7) of one who is 80 already", Due.town("cw080;cw000;q017;").lasts(7), 1);
    DeniedOfEachOther x = Due.town("cl000;cw000;w001;w101;");
    Due.is("lasts(0) of what will be WRITTEN", x.lasts(0), 0);
    Due.is("writtenThen(2)", x.writtenThen(2), 1);
    DeniedOfEachOther y = Due.town("cl000;cw000;w001;w102;");
    Due.is("lasts(0) of what will be WRITTEN again", y.lasts(0), 2);
    Due.is("writtenThen(4)", y.writtenThen(4), 1);
    for (int t = 0; t <= 7; t++) Due.is("lasts(" + t + ") of nobody", new DeniedOfEachOther().lasts(t), 0);
  }

  private static void lost() {
    Due.says(16, "the TOPIC that is WRITTEN now and is so no more first; when");
    for (int age = 19; age <= 79; age++) {
      DeniedOfEachOther x = Due.town("cw0" + age + ";cw000;q017;");
      Due.is("lost(0) of one of " + age, x.lost(0), age == 19 ? -9 : 7);
      Due.is("lost(1) of one of " + age, x.lost(1), age == 19 ? -9 : 80 - age);
    }
    DeniedOfEachOther later = Due.town("cw000;cw070;cw078;q010;q027;");
    Due.is("lost(0): the first, though not the least", later.lost(0), 7);
    Due.is("lost(1)", later.lost(1), 2);
    Due.says(16, "of several the least");
    DeniedOfEachOther several = Due.town("cw000;cw078;cw078;q015;q023;q014;");
    Due.is("lost(0)", several.lost(0), 3);
    Due.is("lost(1)", several.lost(1), 2);
    Due.says(16, "-9");
    DeniedOfEachOther notNow = Due.town("cl000;cw000;cw000;w001;w101;w201;q127;");
    Due.is("lost(0) of what is not WRITTEN now", notNow.lost(0), -9);
    Due.is("lost(1) of what is not WRITTEN now", notNow.lost(1), -9);
    Due.is("lost(0) of nobody", new DeniedOfEachOther().lost(0), -9);
    Due.is("lost(1) of nobody", new DeniedOfEachOther().lost(1), -9);
  }

  /** A LIAR of figure 0 alone against two: each even YEAR he says yes, each odd one he turns to their no. */
  private static DeniedOfEachOther neverStill(int age) {
    return Due.town("cl0" + age / 10 + age % 10 + ";cw000;cw000;w001;w102;w202;");
  }

  private static void still() {
    Due.says(17, "the first n (0 .. 60) behind which a YEAR changes no WORD and nobody dies; -9");
    Due.is("still(0) of nobody", new DeniedOfEachOther().still(0), 0);
    Due.is("still(0) when all only grow older", Due.town("cw000;cw000;q010;").still(0), 0);
    Due.is("still(0) when one dies at once", Due.town("cw079;cw000;").still(0), 1);
    Due.is("still(0) ahead of one's death", Due.town("cw078;cw000;").still(0), 0);
    Due.is("still(0) when three die one behind another", Due.town("cw079;cw078;cw077;").still(0), 3);
    Due.is("still(0) when a word changes at once", Due.town("ch000;w071;").still(0), 1);
    Due.is("still(0) of the WORDS of one DEAD", Due.town("ch000;w071;d0;").still(0), 0);
    Due.is("still(0) of a LIAR who dies in YEAR 59", neverStill(6).still(0), 59);
    Due.is("still(0) of a LIAR who dies in YEAR 60", neverStill(5).still(0), 60);
    Due.is("still(0) of a LIAR who dies in YEAR 61", neverStill(4).still(0), -9);
  }

  private static void empty() {
    Due.says(17, "EMPTY: the first n (0 .. 60) behind which nothing is WRITTEN; -9");
    Due.is("still(1) of nobody", new DeniedOfEachOther().still(1), 0);
    Due.is("still(1) of nothing WRITTEN", Due.town("cw000;cw000;w001;").still(1), 0);
    for (int age = 19; age <= 79; age++) {
      Due.is("still(1) of one of " + age, Due.town("cw0" + age + ";cw000;q017;").still(1), age == 19 ? -9 : 80 - age);
    }
    Due.is("still(1): the last of two", Due.town("cw070;cw060;cw000;q020;q121;").still(1), 20);
    Due.is("still(1) of what is WRITTEN later", Due.town("cl000;cw000;w001;w101;").still(1), 0);
  }

  // ---- promises 18 to 21

  private static void chapters() {
    Due.says(18, "of one who lives: of how many TOPICS that are WRITTEN he says something (0 of the DEAD)");
    DeniedOfEachOther x = Due.town("cc000;".repeat(6));
    for (int t = 0; t <= 7; t++) {
      Due.is("chapter(5)", x.chapter(5), t);
      x.says(5, t, 1 + t % 2);
      Due.is("chapter(5) of what he alone says", x.chapter(5), t);
      x.says(0, t, 2 - t % 2);
    }
    Due.is("chapter(5)", x.chapter(5), 8);
    Due.is("chapter(1) of one silent", x.chapter(1), 0);
    Due.says(18, "the one with most, of several the least");
    Due.is("chapter(-1): 0 and 5 alike", x.chapter(-1), 0);
    x.says(3, 0, 1);
    Due.is("chapter(-1)", x.chapter(-1), 0);
    x.says(0, 0, 0);
    x.says(3, 0, 2);
    Due.is("chapter(-1): 5 has one more", x.chapter(-1), 5);
    x.dies(5);
    Due.is("chapter(5) of one DEAD", x.chapter(5), 0);
    Due.is("chapter(-1) when nothing is WRITTEN", x.chapter(-1), 0);
    x.dies(0);
    Due.is("chapter(-1) of those who live", x.chapter(-1), 1);
    Due.says(18, "(0 of the DEAD)");
    Due.is("chapter(2) of one DEAD who says what is WRITTEN", Due.town("cc000;cc000;cc000;q010;w201;d2;").chapter(2), 0);
    Due.is("chapter(-1): 0 has none, being DEAD", Due.town("cc000;cc000;cc000;q010;w201;d0;").chapter(-1), 1);
    Due.says(18, "-9 nobody lives");
    for (int i = 1; i <= 4; i++) x.dies(i);
    Due.is("chapter(-1)", x.chapter(-1), -9);
    Due.is("chapter(-1) of no CITIZENS", new DeniedOfEachOther().chapter(-1), -9);
    Due.is("count(11): it is no refusal", x.count(11), 0);
  }

  private static void quarrels() {
    Due.says(19, "which two (10 who says yes and who says no; both live), saying so now, make it LAST longest");
    Due.is("0 ends first", Due.town("cw070;cw060;cw050;").quarrel(7), 12);
    Due.is("1 ends first", Due.town("cw060;cw070;cw050;").quarrel(7), 2);
    Due.is("behind 60 YEARS, not 59 or 58", Due.town("cw022;cw021;cw020;").quarrel(7), 12);
    Due.is("behind 59 YEARS, not 58", Due.town("cw021;cw021;cw022;").quarrel(0), 1);
    // 2 says no: 0 alone against two gives way at once, but 1 doesn't.
    Due.is("who says yes matters", Due.town("cc000;cw000;cw000;w202;").quarrel(0), 10);
    Due.is("saying so now, whatever he said", Due.town("cw000;cw000;cw000;w002;w101;w202;").quarrel(0), 1);
    Due.says(19, "(never ending: longest of all)");
    Due.is("never, not behind 60 YEARS", Due.town("cw020;cw000;cw000;").quarrel(3), 12);
    Due.is("never, the last of all", Due.town("cw070;cw070;cw070;cw070;cw000;cw019;").quarrel(3), 45);
    Due.says(19, "of several the first");
    Due.is("all never", Due.town("cw000;".repeat(6)).quarrel(0), 1);
    Due.is("all at once", Due.town("cw079;".repeat(6)).quarrel(0), 1);
    Due.is("of those who live", Due.town("cw000;".repeat(6) + "d0;d2;d3;").quarrel(0), 14);
    Due.says(19, "-9 fewer than two live");
    Due.is("nobody", new DeniedOfEachOther().quarrel(0), -9);
    Due.is("one", Due.town("cw000;").quarrel(7), -9);
    Due.is("one and one DEAD", Due.town("cw000;cw000;q010;d1;").quarrel(0), -9);
    Due.is("two", Due.town("cw000;cw000;").quarrel(7), 1);
  }

  private static void keeps() {
    Due.says(20, "the fewest WORDS to be changed now so that all TOPICS are WRITTEN");
    Due.is("two silent ones", Due.town("cc000;cc000;").keeps(), 16);
    Due.is("all WRITTEN", Due.town("cc000;cc000;a011111111;a122222222;").keeps(), 0);
    Due.is("all say yes", Due.town("cc000;cc000;a011111111;a111111111;").keeps(), 8);
    Due.is("all say no", Due.town("cc000;cc000;a022222222;a122222222;").keeps(), 8);
    Due.is("one yes, one no, one both", Due.town("cc000;cc000;w001;w112;q017;").keeps(), 12);
    Due.is("the DEAD keep nothing", Due.town("cc000;cc000;cc000;a011111111;a122222222;d0;").keeps(), 8);
    Due.says(20, "-9 fewer than two live");
    Due.is("nobody", new DeniedOfEachOther().keeps(), -9);
    Due.is("one", Due.town("cc000;").keeps(), -9);
    Due.is("two, one of them DEAD", Due.town("cc000;cc000;a011111111;a122222222;d0;").keeps(), -9);
    Due.is("two of six", Due.town("cc000;".repeat(6) + "d0;d1;d2;d3;").keeps(), 16);
  }

  private static void silentAndAgreed() {
    Due.says(21, "SILENT: TOPICS (bits) of which nobody who lives says anything");
    Due.is("silent(0) of nobody", new DeniedOfEachOther().silent(0), 255);
    DeniedOfEachOther x = Due.town("cc000;cc000;w001;w172;");
    Due.is("silent(0)", x.silent(0), 126);
    Due.says(21, "AGREED: of which some say something, all of these the same");
    Due.is("silent(1) of nobody", new DeniedOfEachOther().silent(1), 0);
    Due.is("silent(1) of one each", x.silent(1), 129);
    x.says(1, 0, 1);
    Due.is("silent(1) when both say yes", x.silent(1), 129);
    x.says(1, 0, 2);
    Due.is("silent(1) when 1 says no", x.silent(1), 128);
    Due.is("silent(0) when 1 says no", x.silent(0), 126);
    x.dies(1);
    Due.is("silent(0) when 1 is DEAD", x.silent(0), 254);
    Due.is("silent(1) when 1 is DEAD", x.silent(1), 1);
    Due.is("silent(0) of none", Due.town("cc000;a012121212;").silent(0), 0);
    Due.is("silent(1) of all", Due.town("cc000;a012121212;").silent(1), 255);
  }

  // ---- promises 22 to 28

  private static void lives() {
    Due.says(22, "the one who lives without whom (DEAD now) fewest TOPICS are WRITTEN behind n YEARS; how many");
    // 1 dies behind 60 YEARS, and with him all that 0 denies.
    DeniedOfEachOther x = Due.town("cw000;cw020;cw000;cw000;q010;q011;q232;");
    Due.is("lives(0, 0)", x.lives(0, 0), 0);
    Due.is("lives(0, 1)", x.lives(0, 1), 1);
    Due.is("lives(59, 0)", x.lives(59, 0), 0);
    Due.is("lives(59, 1)", x.lives(59, 1), 1);
    Due.is("lives(60, 0)", x.lives(60, 0), 2);
    Due.is("lives(60, 1)", x.lives(60, 1), 0);
    Due.says(22, "of several the least");
    Due.is("lives(0, 0) of two", Due.town("cc000;cc000;q010;").lives(0, 0), 0);
    Due.is("lives(0, 0) of those who live", Due.town("cc000;cc000;cc000;q010;d0;").lives(0, 0), 1);
    Due.is("lives(0, 0): the last alone", Due.town("cc000;".repeat(6) + "q050;q151;q252;q343;").lives(0, 0), 5);
    Due.is("lives(0, 1): the last alone", Due.town("cc000;".repeat(6) + "q050;q151;q252;q343;").lives(0, 1), 1);
    Due.is("lives(0, 1) of all", Due.town("cc000;cc000;cc000;cc000;a011111111;a122222222;a211111111;a322222222;").lives(0, 1), 8);
    Due.says(22, "-9 nobody");
    for (int what = 0; what <= 1; what++) {
      Due.is("lives(0, " + what + ")", new DeniedOfEachOther().lives(0, what), -9);
      Due.is("lives(60, " + what + ")", new DeniedOfEachOther().lives(60, what), -9);
      Due.is("lives(0, " + what + ") of one DEAD", Due.town("cc000;d0;").lives(0, what), -9);
      Due.is("lives(0, " + what + ") of one", Due.town("cc000;").lives(0, what), 0);
    }
  }

  private static void heirs() {
    Due.says(23, "the one who, being a WIDOW (KIND w), makes most WRITTEN behind n YEARS");
    DeniedOfEachOther x = Due.town("cw000;cc000;q010;");
    Due.is("heir(59)", x.heir(59), -9);
    Due.is("heir(60): 1 would live still", x.heir(60), 1);
    // Both are HIRED; 2 says something of two TOPICS.
    Due.is("heir(1)", Due.town("cw000;ch000;ch000;q010;q021;q022;").heir(1), 2);
    Due.is("heir(39): with his FIGURE he would be 88 of 89", Due.town("ch949;cw000;q010;").heir(39), 0);
    Due.is("heir(40): he would be DEAD", Due.town("ch949;cw000;q010;").heir(40), -9);
    Due.says(23, "more than else");
    Due.is("heir(0)", x.heir(0), -9);
    Due.is("heir(1) of WIDOWS", Due.town("cw000;cw000;q010;").heir(1), -9);
    Due.is("heir(1) of who says nothing", Due.town("ch000;cw000;cw000;q120;").heir(1), -9);
    // As a WIDOW the LIAR would not deny it: fewer, not more.
    Due.is("heir(2) of a LIAR", Due.town("cl000;cw000;w001;w101;").heir(2), -9);
    Due.says(23, "more than else: than as all is now, whatever was asked ahead of it");
    DeniedOfEachOther asked = Due.town("cw030;cw030;q010;");
    Due.is("writtenThen(60) of the DEAD", asked.writtenThen(60), 0);
    Due.is("heir(1) of WIDOWS", asked.heir(1), -9);
    asked.turn(0, 1, 0);
    Due.is("lives(0, 1)", asked.lives(0, 1), 0);
    Due.is("heir(1) of one HIRED since", asked.heir(1), 0);
    Due.says(23, "of several the least (of those who live)");
    Due.is("heir(1)", Due.town("cw000;ch000;ch000;q010;q021;").heir(1), 1);
    Due.is("heir(1) without 1", Due.town("cw000;ch000;ch000;q010;q021;d1;").heir(1), 2);
    Due.says(23, "-9");
    Due.is("heir(0) of nobody", new DeniedOfEachOther().heir(0), -9);
    Due.is("heir(60) of nobody", new DeniedOfEachOther().heir(60), -9);
    Due.is("heir(1) of the DEAD", Due.town("ch000;cw000;q010;d0;").heir(1), -9);
  }

  private static void so() {
    Due.says(24, "so that fewest WORDS of those who live are false: the fewest");
    Due.is("so(-1) of nobody", new DeniedOfEachOther().so(-1), 0);
    Due.is("so(-1) when all agree", Due.town("cc000;cc000;a012121212;a112121212;").so(-1), 0);
    DeniedOfEachOther x = Due.town("cc000;".repeat(6));
    for (int i = 0; i < 6; i++) {
      for (int t = 0; t <= 7; t++) x.says(i, t, 1 + i % 2);
    }
    Due.is("so(-1) of three against three", x.so(-1), 24);
    Due.says(24, "of one TOPIC (yes, if alike; 0 nobody says anything)");
    for (int t = 0; t <= 7; t++) Due.is("so(" + t + ") alike", x.so(t), 1);
    x.dies(0);
    Due.is("so(7) of two against three", x.so(7), 2);
    Due.is("so(-1) of two against three", x.so(-1), 16);
    x.dies(1);
    x.dies(3);
    Due.is("so(0) of two against one", x.so(0), 1);
    for (int i = 2; i <= 5; i++) x.dies(i);
    Due.is("so(0) of the DEAD", x.so(0), 0);
    Due.is("so(-1) of the DEAD", x.so(-1), 0);
    for (int t = 0; t <= 7; t++) Due.is("so(" + t + ") of nobody", new DeniedOfEachOther().so(t), 0);
  }

  private static void leastLiars() {
    Due.says(25, "the fewest of those who live without whose WORDS nothing would be WRITTEN");
    Due.is("nobody", new DeniedOfEachOther().leastLiars(), 0);
    Due.is("nothing WRITTEN", Due.town("cc000;cc000;w001;w101;").leastLiars(), 0);
    Due.is("one of three, not two", Due.town("cc000;cc000;cc000;w001;w101;w202;").leastLiars(), 4);
    Due.is("the DEAD don't count", Due.town("cc000;cc000;cc000;w001;w102;w202;d1;").leastLiars(), 1);
    DeniedOfEachOther x = Due.town("cc000;".repeat(6));
    for (int i = 0; i < 6; i++) {
      for (int t = 0; t < 3; t++) x.says(i, t, 1 + (i >> t & 1));
    }
    Due.says(25, "(bits, of several the least)");
    Due.is("all but one of six", x.leastLiars(), 31);
    x.dies(0);
    Due.is("all but one of five", x.leastLiars(), 30);
    x.dies(5);
    x.dies(3);
    x.dies(2);
    Due.is("either of two", x.leastLiars(), 2);
    Due.is("1 of a chain of three", Due.town("cc000;cc000;cc000;q010;q121;").leastLiars(), 2);
    Due.is("0 and 2 of a chain of four", Due.town("cc000;cc000;cc000;cc000;q010;q121;q232;").leastLiars(), 5);
  }

  private static void differ() {
    Due.says(26, "the two who live (10 the lesser and the other) who say the other of most TOPICS; of how many");
    DeniedOfEachOther x = Due.town("cc000;".repeat(6) + "a412121212;a521212121;q020;");
    Due.is("differ(0)", x.differ(0), 45);
    Due.is("differ(1)", x.differ(1), 8);
    x.dies(4);
    // 5 says no of 0, 2, 4, 6; 0 says yes of 0 and 2 no.
    Due.is("differ(0) without 4", x.differ(0), 2);
    Due.is("differ(1) without 4", x.differ(1), 1);
    Due.says(26, "of several the first");
    Due.is("differ(0) of 01 and 23", Due.town("cc000;cc000;cc000;cc000;q321;q010;").differ(0), 1);
    Due.is("differ(0) of 03 and 12", Due.town("cc000;cc000;cc000;cc000;q121;q300;").differ(0), 3);
    Due.is("differ(0) of 12 and 13", Due.town("cc000;cc000;cc000;cc000;q210;q131;").differ(0), 12);
    Due.is("differ(0) when none deny anything", Due.town("cc000;cc000;cc000;d0;").differ(0), 12);
    Due.is("differ(1) when none deny anything", Due.town("cc000;cc000;w001;w101;").differ(1), 0);
    Due.says(26, "-9");
    for (int what = 0; what <= 1; what++) {
      Due.is("differ(" + what + ") of nobody", new DeniedOfEachOther().differ(what), -9);
      Due.is("differ(" + what + ") of one", Due.town("cc000;").differ(what), -9);
      Due.is("differ(" + what + ") of one and one DEAD", Due.town("cc000;cc000;q010;d0;").differ(what), -9);
    }
  }

  private static void pairs() {
    Due.says(26, "PAIRS: the most twos of those who live, nobody in more than one, who differ in a TOPIC or more");
    Due.is("nobody", new DeniedOfEachOther().differ(2), 0);
    Due.is("one", Due.town("cc000;").differ(2), 0);
    Due.is("two who deny nothing", Due.town("cc000;cc000;w001;w101;").differ(2), 0);
    Due.is("two who deny all", Due.town("cc000;cc000;a011111111;a122222222;").differ(2), 1);
    Due.is("six in twos", Due.town("cc000;".repeat(6) + "q050;q141;q232;").differ(2), 3);
    Due.is("the twos of 1 and 2 would leave 0 and 3 alone", Due.town("cc000;cc000;cc000;cc000;q120;q011;q232;").differ(2), 2);
    Due.is("five with the last two", Due.town("cc000;".repeat(6) + "q450;d0;").differ(2), 1);
    Due.is("nobody in more than one", Due.town("cc000;".repeat(6) + "q010;q021;q032;q043;q054;").differ(2), 1);
    Due.is("the DEAD are in none", Due.town("cc000;".repeat(6) + "q050;q141;q232;d5;").differ(2), 2);
  }

  private static void friends() {
    Due.says(27, "those who live (bits; not himself) who say the other of nothing that he says");
    Due.is("one alone", Due.town("cc000;").friends(0), 0);
    DeniedOfEachOther x = Due.town("cc000;".repeat(6));
    for (int i = 0; i < 6; i++) Due.is("friends(" + i + ") of six silent ones", x.friends(i), 63 - (1 << i));
    x.says(5, 7, 1);
    Due.is("friends(5) who says something of which the others say nothing", x.friends(5), 31);
    x.says(0, 7, 2);
    x.says(1, 7, 1);
    Due.is("friends(5)", x.friends(5), 30);
    Due.is("friends(0)", x.friends(0), 28);
    Due.is("friends(2)", x.friends(2), 59);
    x.dies(2);
    Due.is("friends(5) without 2", x.friends(5), 26);
    Due.is("friends(0) of one who says yes", Due.town("cc000;cc000;q100;").friends(0), 0);
  }

  private static void gives() {
    Due.says(28, "the fewest WORDS of those who live to be taken back (0) so that nothing is WRITTEN");
    Due.is("nobody", new DeniedOfEachOther().gives(), 0);
    Due.is("all agree", Due.town("cc000;cc000;a011111111;a111111111;").gives(), 0);
    Due.is("one against five, in TOPIC 7", Due.town("cc000;".repeat(6) + "w071;w172;w272;w372;w472;w572;").gives(), 1);
    DeniedOfEachOther x = Due.town("cc000;".repeat(6));
    for (int i = 0; i < 6; i++) {
      for (int t = 0; t <= 7; t++) x.says(i, t, 1 + i % 2);
    }
    Due.is("three against three", x.gives(), 24);
    x.dies(1);
    Due.is("three against two", x.gives(), 16);
  }

  // ---- promises 29 to 31

  private static void two() {
    Due.says(29, "the first pair (10 the first's and the other's) by which neither has more by another one alone");
    DeniedOfEachOther x = Due.town("cc000;ch020;cw030;cf000;cl000;ck000;", "a012121212;a121212121;a211221122;a322112211;a412211221;a521122112;");
    for (int a = 0; a < 6; a++) {
      for (int b = 0; b < 6; b++) {
        if (a == b) continue;
        // Who gives way says nothing of it for ever, and of other TOPICS all is as else: he never has more.
        for (int t = 0; t <= 7; t++) Due.is("two(" + a + ", " + b + ", " + t + ", 2)", x.two(a, b, t, 2), 0);
        Due.is("two(" + a + ", " + b + ", 7, 0)", x.two(a, b, 7, 0), 0);
        Due.is("two(" + a + ", " + b + ", 0, 60)", x.two(a, b, 0, 60), 0);
      }
    }
  }

  private static void winters() {
    Due.says(30, "in each of n YEARS (0 .. 7) with odds 1 in t (2 .. 20) all who live are 5 older besides");
    DeniedOfEachOther x = Due.town("cw000;cw000;q017;");
    for (int n = 0; n <= 7; n++) {
      for (int t = 2; t <= 20; t++) {
        x.ages(0, 79 - n);
        long below = 1;
        long above = 1;
        for (int i = 0; i < n; i++) {
          below *= t;
          above *= t - 1;
        }
        // Any cold YEAR of these makes 0 die; t and t - 1 have no divisor in common.
        dueWinter(x, 7, n, t, above, below);
        x.ages(0, 80 - n);
        dueWinter(x, 7, n, t, n == 0 ? 1 : 0, 1);
        x.ages(0, 0);
        dueWinter(x, 7, n, t, 1, 1);
        dueWinter(x, 0, n, t, 0, 1);
      }
    }
    for (int n = 1; n <= 7; n++) {
      // He dies only if all n YEARS are cold.
      x.ages(0, 80 - 6 * n);
      dueWinter(x, 7, n, 20, TWENTY_TO[n] - 1, TWENTY_TO[n]);
      x.ages(0, 79 - n);
      dueWinter(x, 7, n, 20, NINETEEN_TO[n], TWENTY_TO[n]);
    }
    Due.says(30, "ahead of it");
    // 1 dies in the cold YEAR, ahead of what 0 would do alone against two.
    DeniedOfEachOther y = Due.town("cc000;cw074;cw000;w001;w102;w202;");
    dueWinter(y, 0, 1, 7, 1, 7);
    y.ages(1, 73);
    dueWinter(y, 0, 1, 7, 0, 1);
    y.ages(1, 79);
    dueWinter(y, 0, 1, 7, 1, 1);
    Due.says(30, "(99 at most)");
    dueWinter(Due.town("ck999;cw000;q010;"), 0, 7, 20, 0, 1);
    dueWinter(Due.town("ck999;cw000;q010;"), 0, 0, 20, 1, 1);
    Due.says(30, "all who live");
    DeniedOfEachOther both = Due.town("cw074;cw074;cw000;q010;q121;");
    dueWinter(both, 0, 1, 3, 2, 3);
    dueWinter(both, 1, 1, 3, 2, 3);
    Due.is("citizen(0, 2)", both.citizen(0, 2), 74);
    dueWinter(new DeniedOfEachOther(), 7, 7, 20, 0, 1);
  }

  private static void dueWinter(DeniedOfEachOther x, int topic, int n, int t, long above, long below) {
    String call = "winter(" + topic + ", " + n + ", " + t + ", ";
    Due.is(call + "0)", x.winter(topic, n, t, 0), above);
    Due.is(call + "1)", x.winter(topic, n, t, 1), below);
  }

  private static void fractions() {
    Due.says(30, "Fractions are told in least terms; 0 as 0 by 1");
    // Two YEARS, of which both must be cold: 1 by 4 is left out, 3 by 4 is told.
    dueWinter(Due.town("cw068;cw000;q010;"), 0, 2, 2, 3, 4);
    // One or none of two is cold, 1 in 4: 9 and 6 of 16; 1 in 6: 25 and 10 of 36; 1 in 3: 4 and 4 of 9.
    dueWinter(Due.town("cw068;cw000;q010;"), 0, 2, 4, 15, 16);
    dueWinter(Due.town("cw068;cw000;q010;"), 0, 2, 6, 35, 36);
    dueWinter(Due.town("cw068;cw000;q010;"), 0, 2, 3, 8, 9);
    // None or one of three is cold, 1 in 2: 4 of 8.
    dueWinter(Due.town("cw067;cw000;q010;"), 0, 3, 2, 1, 2);
    // None or one of three is cold, 1 in 4: 27 and 27 of 64.
    dueWinter(Due.town("cw067;cw000;q010;"), 0, 3, 4, 27, 32);
    // None or one of three is cold, 1 in 10: 729 and 243 of 1000.
    dueWinter(Due.town("cw067;cw000;q010;"), 0, 3, 10, 243, 250);
    dueWinter(Due.town("cw079;cw000;q010;"), 0, 3, 10, 0, 1);
  }

  private static void means() {
    Due.says(31, "of AGES of those who live: a fraction (0 by 1 of nobody)");
    dueMean(new DeniedOfEachOther(), 0, 1);
    dueMean(Due.town("cc055;d0;"), 0, 1);
    dueMean(Due.town("cc000;"), 0, 1);
    dueMean(Due.town("cc000;".repeat(6)), 0, 1);
    dueMean(Due.town("cc099;".repeat(6)), 99, 1);
    dueMean(Due.town("cc099;" + "cc000;".repeat(5)), 33, 2);
    dueMean(Due.town("cc001;" + "cc000;".repeat(5)), 1, 6);
    dueMean(Due.town("cc097;" + "cc000;".repeat(5)), 97, 6);
    dueMean(Due.town("cc004;cc002;"), 3, 1);
    dueMean(Due.town("cc004;cc003;"), 7, 2);
    dueMean(Due.town("cc004;cc003;cc099;d2;"), 7, 2);
  }

  private static void dueMean(DeniedOfEachOther x, long above, long below) {
    Due.is("mean(0)", x.mean(0), above);
    Due.is("mean(1)", x.mean(1), below);
  }

  // ---- promises 32 to 36

  private static void kindsByRow() {
    Due.says(32, "a WORD of one about a told TOPIC behind 0, 1, .. YEARS: KINDS (bits) of him by which all of it is so");
    String alone = "cc100;cw000;cw000;w071;w172;w272;";
    dueKinds(alone, 63);
    dueKinds(alone, 63, 1);
    dueKinds(alone, 0, 0);
    dueKinds(alone, 0, 2);
    dueKinds(alone, 0, 3);
    dueKinds(alone, 0, 99);
    dueKinds(alone, 1 + 2, 1, 0);
    dueKinds(alone, 4 + 32, 1, 1);
    dueKinds(alone, 8 + 16, 1, 2);
    dueKinds(alone, 8 + 16, 1, 2, 2);
    dueKinds(alone, 16, 1, 2, 2, 1);
    dueKinds(alone, 8, 1, 2, 2, 2);
    Due.says(32, "A ROW of numbers (16 at most): all of it");
    dueKinds(alone, 16, 1, 2, 2, 1, 2, 2, 1, 2, 2, 1, 2, 2, 1, 2, 2, 1);
    dueKinds(alone, 0, 1, 2, 2, 1, 2, 2, 1, 2, 2, 1, 2, 2, 1, 2, 2, 2);
    dueKinds(alone, 0, 1, 2, 2, 1, 2, 2, 1, 2, 2, 1, 2, 2, 1, 2, 2, 99);
    dueKinds(alone, 1 + 2, 1, 0, 0, 0, 0, 0, 0, 0, 0, 0, 0, 0, 0, 0, 0, 0);
    Due.says(32, "KINDS: with their LIFE");
    // Behind a YEAR he is 64: c, h and f of figure 0 are DEAD, and l is not.
    dueKinds("cc063;cw000;cw000;w071;w172;w272;", 63 - 16, 1, 1);
    dueKinds("cc063;cw000;cw000;w071;w172;w272;", 16, 1, 2);
    dueKinds("cc064;cw000;cw000;w071;w172;w272;", 63, 1, 1);
    dueKinds("cc000;cw000;cw000;w071;w172;w272;d0;", 63, 1, 1, 1);
    dueKinds("cc000;cw000;cw000;w071;w172;w272;d0;", 0, 1, 1, 0);
  }

  private static void dueKinds(String town, int want, int... row) {
    DeniedOfEachOther x = Due.withRow(Due.town(town), row);
    Due.is("whatIs(0, 7, 0) of a ROW of " + row.length, x.whatIs(0, 7, 0), want);
    Due.is("the ROW (it stays)", x.count(6), row.length);
    Due.is("whatIs(0, 7, 0) again", x.whatIs(0, 7, 0), want);
    Due.is("KIND", x.citizen(0, 0), 0);
  }

  private static void figuresByRow() {
    Due.says(32, "FIGURES (bits 0 .. 9)");
    String alone = "cl100;cw000;cw000;w071;w172;w272;";
    dueFigures(alone, 1023);
    dueFigures(alone, 1023, 1);
    dueFigures(alone, 0, 0);
    // In YEAR 1 he turns, being alone; in YEAR 2 a LIAR of figure 0 turns back.
    dueFigures(alone, 1023, 1, 2);
    dueFigures(alone, 1, 1, 2, 1);
    dueFigures(alone, 1022, 1, 2, 2);
    dueFigures(alone, 2, 1, 2, 2, 1, 2, 2, 1, 2, 2, 1, 2, 2, 1, 2, 2, 1);
    dueFigures(alone, 512, 1, 2, 2, 2, 2, 2, 2, 2, 2, 2, 2, 1);
    dueFigures(alone, 0, 1, 2, 2, 1, 2, 2, 1, 2, 2, 1, 2, 2, 1, 2, 2, 2);
    // He is 65 behind a YEAR: a CITIZEN of figure 5 or less is DEAD then and keeps his WORD.
    dueFigures("cc064;cw000;cw000;w071;w172;w272;", 63, 1, 1);
    dueFigures("cc064;cw000;cw000;w071;w172;w272;", 1023 - 63, 1, 0);
    dueFigures("ch900;w071;", 1, 1, 0);
    dueFigures("ch000;w071;", 512, 1, 1, 1, 1, 1, 1, 1, 1, 1, 1, 0);
  }

  private static void dueFigures(String town, int want, int... row) {
    DeniedOfEachOther x = Due.withRow(Due.town(town), row);
    int figure = x.citizen(0, 1);
    Due.is("whatIs(0, 7, 1) of a ROW of " + row.length, x.whatIs(0, 7, 1), want);
    Due.is("the ROW (it stays)", x.count(6), row.length);
    Due.is("FIGURE", x.citizen(0, 1), figure);
  }

  private static void rows() {
    Due.says(33, "A number more of the ROW (0 .. 99): how many");
    for (int v = 0; v <= 99; v++) Due.is("row(" + v + ")", new DeniedOfEachOther().row(v), 1);
    Due.says(33, "-4; -6 (99; 16, too)");
    int[] below = {-1, -99, Due.LEAST};
    int[] above = {100, 255, Due.GREATEST};
    DeniedOfEachOther x = new DeniedOfEachOther();
    for (int size = 0; size <= 16; size++) {
      for (int v : below) Due.is("row(" + v + ") behind " + size, x.row(v), -4);
      for (int v : above) Due.is("row(" + v + ") behind " + size, x.row(v), -6);
      Due.is("count(6)", x.count(6), size);
      Due.is("row(0) behind " + size, x.row(0), size < 16 ? size + 1 : -6);
    }
    Due.is("row(99) behind 16", x.row(99), -6);
    Due.is("judge() of the 16 that came", x.judge(), -9);
    Due.says(35, "The ROW has none then: how many it had");
    DeniedOfEachOther y = new DeniedOfEachOther();
    for (int size = 0; size <= 16; size++) {
      for (int i = 0; i < size; i++) y.row(i);
      Due.is("clear() of " + size, y.clear(), size);
      Due.is("count(6)", y.count(6), 0);
      Due.is("clear() of none", y.clear(), 0);
    }
    Due.is("row(99) behind clear()", y.row(99), 1);
  }

  private static void judged() {
    Due.says(34, "how many TOPICS are WRITTEN behind 0, 1, .. YEARS: the first that is not so; -9");
    Due.is("judge() of no ROW", new DeniedOfEachOther().judge(), -9);
    // Two TOPICS until 0 is DEAD, behind 15 YEARS.
    int[] due = {2, 2, 2, 2, 2, 2, 2, 2, 2, 2, 2, 2, 2, 2, 2, 0};
    for (int wrong = -1; wrong <= 15; wrong++) {
      for (int by = 1; by <= 99; by += 49) {
        DeniedOfEachOther x = Due.town("cw065;cw000;q010;q017;");
        for (int n = 0; n <= 15; n++) x.row(n == wrong ? Math.min(99, due[n] + by) : due[n]);
        Due.is("judge() of a ROW wrong at " + wrong, x.judge(), wrong == -1 ? -9 : wrong);
        Due.is("count(6) (the ROW has none then)", x.count(6), 0);
        Due.is("judge() again", x.judge(), -9);
        Due.is("count(1)", x.count(1), 0);
        Due.is("row(1)", x.row(1), 1);
      }
    }
    Due.is("judge() of two that are wrong", Due.withRow(new DeniedOfEachOther(), 0, 1, 0, 1).judge(), 1);
    Due.is("judge() of all 8", Due.withRow(Due.town("cw000;cw000;a011111111;a122222222;"), 8, 8, 8).judge(), -9);
  }

  private static void lots() {
    Due.says(36, "n towns (1 .. 20): how many live (of all together)");
    DeniedOfEachOther x = Due.town("cw069;cw070;cw000;cw000;d3;");
    for (int n = 1; n <= 20; n++) Due.is("lots(" + n + ", 0, 1)", x.lots(n, 0, 1), 2 * n);
    Due.is("lots(20, 0, 1) of six", Due.town("cw000;".repeat(6)).lots(20, 0, 1), 120);
    for (int what = 0; what <= 1; what++) {
      Due.is("lots(1, 0, " + what + ") of nobody", new DeniedOfEachOther().lots(1, 0, what), 0);
      Due.is("lots(20, -1, " + what + ") of the DEAD", Due.town("cw000;d0;").lots(20, -1, what), 0);
    }
    Due.says(36, "then 10 YEARS");
    Due.is("lots(20, 5, 0) of HIRED ones, whom YEAR 10 makes silent", Due.town("ch900;ch900;").lots(20, 5, 0), 0);
    DeniedOfEachOther kings = Due.town("ck000;ck000;");
    DeniedOfEachOther widows = Due.town("cw000;cw000;");
    Due.is("lots(20, 5, 0) of KINGS, who keep what is denied", kings.lots(20, 5, 0), widows.lots(20, 5, 0));
    Due.is("nothing is changed", widows.count(1) + widows.count(4), 0);
  }

  private static void draws() {
    Due.says(36, "z becomes z times 1664525 and 1013904223 (an int); (z without its sign's bit by 256, cut) modulo m");
    int[] seeds = {0, 1, -1, 2, 12345, -98765, 1 << 30, Due.LEAST, Due.LEAST + 1, Due.GREATEST, Due.GREATEST - 1};
    for (int seed : seeds) {
      DeniedOfEachOther x = Due.town("cw000;cw000;");
      DeniedOfEachOther dead = Due.town("cw000;cw000;cw000;d1;");
      DeniedOfEachOther spoken = Due.town("cw000;cw000;a012121212;a112121212;");
      for (int n = 1; n <= 20; n++) {
        int want = writtenByLot(seed, n);
        Due.is("lots(" + n + ", " + seed + ", 0)", x.lots(n, seed, 0), want);
        Due.is("lots(" + n + ", " + seed + ", 0), who is DEAD draws nothing", dead.lots(n, seed, 0), want);
        Due.is("lots(" + n + ", " + seed + ", 0), whatever they say now", spoken.lots(n, seed, 0), want);
      }
    }
    // By hand: from 0, z is 1013904223, by 256 3960563, modulo 3 2.
    Due.must("the first draw from 0 is 2", drawn(BigInteger.ZERO, 3)[0] == 2);
  }

  /** Two WIDOWS, of whom the first draws of TOPICS 0 .. 7, then the other one. */
  private static int writtenByLot(int seed, int towns) {
    int[] drawn = drawn(BigInteger.valueOf(seed), 16 * towns);
    int written = 0;
    for (int town = 0; town < towns; town++) {
      for (int t = 0; t <= 7; t++) {
        int first = drawn[16 * town + t];
        int other = drawn[16 * town + 8 + t];
        if (first == 1 && other == 2 || first == 2 && other == 1) written++;
      }
    }
    return written;
  }

  private static int[] drawn(BigInteger seed, int draws) {
    int[] drawn = new int[draws];
    BigInteger z = seed.mod(BigInteger.TWO.pow(32));
    for (int i = 0; i < draws; i++) {
      z = z.multiply(BigInteger.valueOf(1664525)).add(BigInteger.valueOf(1013904223)).mod(BigInteger.TWO.pow(32));
      drawn[i] = z.mod(BigInteger.TWO.pow(31)).divide(BigInteger.valueOf(256)).mod(BigInteger.valueOf(3)).intValue();
    }
    return drawn;
  }
}
