/** For each promise of the document, answers worked out by hand. */
public final class PromisesTest {
  private static final long REFUSED = 4000000000000000000L;
  private static int wrong = 0;

  public static void main(String[] args) {
    toldAndChanged();
    yearsOfTheKinds();
    inThought();
    theBook();
    oddsRowsAndLots();
    imageAndCounts();
    System.out.println(wrong == 0 ? "all promises hold" : wrong + " answers are not as due");
    if (wrong != 0) System.exit(1);
  }

  private static void toldAndChanged() {
    promise1();
    promise2();
    promise3();
    promise3Faults();
    promise4();
    promise5();
    promise6();
    promise7();
    promise8();
    promise9();
    promise10();
    promise11();
  }

  private static void inThought() {
    promise12();
    promise13();
    promise14();
    promise15();
    promise16();
    promise17();
  }

  private static void theBook() {
    promise18();
    promise19();
    promise20();
    promise21();
    promise22();
    promise23();
    promise24();
    promise25();
    promise26();
    promise27();
    promise28();
  }

  private static void oddsRowsAndLots() {
    promise29();
    promise30();
    promise31();
    promise32();
    promise33();
    promise34();
    promise35();
    promise36();
  }

  private static void imageAndCounts() {
    promise37and38();
    promise39();
  }

  // ---- helpers

  private static void due(int promise, String call, long got, long want) {
    if (got == want) return;
    wrong++;
    System.out.println("promise " + promise + ": " + call + " answered " + got + ", due is " + want);
  }

  private static int tell(DeniedOfEachOther x, String text) {
    for (int i = 0; i < text.length(); i++) x.letter(text.charAt(i));
    return x.town();
  }

  private static DeniedOfEachOther town(String text) {
    DeniedOfEachOther x = new DeniedOfEachOther();
    int statements = tell(x, text);
    if (statements <= 0) due(3, "town() of " + text, statements, 1);
    return x;
  }

  /** A text told to a new object. */
  private static void dueOfText(String text, int want) {
    due(3, "town() of \"" + text + "\"", tell(new DeniedOfEachOther(), text), want);
  }

  private static String times(String part, int n) {
    return part.repeat(n);
  }

  // ---- promises 1 to 11

  private static void promise1() {
    DeniedOfEachOther x = new DeniedOfEachOther();
    for (int what = 0; what <= 7; what++) due(1, "count(" + what + ")", x.count(what), 0);
    for (int what = 11; what <= 16; what++) due(1, "count(" + what + ")", x.count(what), 0);
    due(1, "written()", x.written(), 0);
    due(1, "on()", x.on(), -3);
  }

  private static void promise2() {
    DeniedOfEachOther x = new DeniedOfEachOther();
    due(2, "letter(0)", x.letter(0), 1);
    due(2, "letter(255)", x.letter(255), 2);
    due(2, "letter(-1)", x.letter(-1), -4);
    due(2, "letter(least)", x.letter(Integer.MIN_VALUE), -4);
    due(2, "letter(256)", x.letter(256), -6);
    due(2, "letter(greatest)", x.letter(Integer.MAX_VALUE), -6);
    for (int i = 3; i <= 96; i++) due(2, "letter " + i, x.letter('c'), i);
    due(2, "letter 97", x.letter('c'), -6);
    due(2, "letter(-1) when full", x.letter(-1), -4);
    due(2, "count(7)", x.count(7), 96);
    due(2, "count(14)", x.count(14), 3);
    due(2, "count(16)", x.count(16), 3);
  }

  private static void promise3() {
    DeniedOfEachOther x = new DeniedOfEachOther();
    due(3, "six statements", tell(x, "cc340;ck085;w001;a10201;q013;y02;"), 6);
    due(3, "kind of 1", x.citizen(1, 0), 5);
    due(3, "figure of 0", x.citizen(0, 1), 3);
    due(3, "age of 0", x.citizen(0, 2), 42);
    due(3, "1 is dead, being 86 with 85 to live", x.citizen(1, 3), 1);
    due(3, "count(1)", x.count(1), 2);
    due(3, "count(7)", x.count(7), 0);
    due(3, "word(0, 0)", x.word(0, 0), 1);
    due(3, "word(1, 1)", x.word(1, 1), 2);
    due(3, "word(1, 3)", x.word(1, 3), 2);
    due(3, "word(0, 3)", x.word(0, 3), 1);
    due(3, "d", tell(x, "d0;"), 1);
    due(3, "count(2)", x.count(2), 0);
    due(3, "'a' leaves topics that it doesn't tell", tell(x, "cw000;a221212121;a20;"), 3);
    due(3, "word(2, 0)", x.word(2, 0), 0);
    due(3, "word(2, 1)", x.word(2, 1), 1);
    due(3, "word(2, 7)", x.word(2, 7), 1);
    DeniedOfEachOther y = new DeniedOfEachOther();
    due(3, "96 letters", tell(y, "cc000;" + times("w001;", 17) + "w002;"), 19);
    due(3, "the last of them came", y.word(0, 0), 2);
    due(3, "96 letters, the last statement lacks its end", tell(y, "d0;" + times("w001;", 18) + "w00"), -1096);
  }

  private static void promise3Faults() {
    dueOfText("", -1000);
    dueOfText(";", -1000);
    dueOfText("C", -1000);
    dueOfText("c", -1001);
    dueOfText("cz000;", -1001);
    dueOfText("cc:00;", -1002);
    dueOfText("cc0/0;", -1003);
    dueOfText("cc00", -1004);
    dueOfText("cc000", -1005);
    dueOfText("cc0000;", -1005);
    dueOfText("cc000;;", -1006);
    dueOfText("cc000; ", -1006);
    dueOfText("cc000;y1;", -1008);
    dueOfText("cc000;y011;", -1009);
    dueOfText("cc000;d;", -1007);
    dueOfText("cc000;d00;", -1008);
    dueOfText("cc000;w0001;", -1010);
    dueOfText("cc000;q00;", -1009);
    dueOfText("cc000;a0;", -1008);
    dueOfText("cc000;a012121212;", 2);
    dueOfText("cc000;a0121212121;", -1016);
    dueOfText("w000;x", -1005);
    dueOfText("w000;", -2000);
    dueOfText("d0;", -2000);
    dueOfText("cc000;w100;", -2006);
    dueOfText("cc000;w080;", -2006);
    dueOfText("cc000;w070;", 2);
    dueOfText("cc000;w003;", -2006);
    dueOfText("cc000;a003;", -2006);
    dueOfText("cc000;a100;", -2006);
    dueOfText("cc000;cc000;q008;", -2012);
    dueOfText("cc000;cc000;q007;", -2012);
    dueOfText("cc000;cc000;q018;", -2012);
    dueOfText("cc000;cc000;q027;", -2012);
    dueOfText("cc000;cc000;q207;", -2012);
    dueOfText("cc000;cc000;q107;", 3);
    dueOfText("cc000;y00;", -2006);
    dueOfText("cc000;y61;", -2006);
    dueOfText("cc000;y60;", 2);
    dueOfText("cc000;d0;d0;", -2009);
    dueOfText("cc000;d0;w000;", -2009);
    dueOfText("cc000;d0;a00;", -2009);
    dueOfText("cc000;cc000;d1;q010;", -2015);
    dueOfText("cc000;cc000;d1;q100;", -2015);
    dueOfText("cc060;y01;w000;", -2010);
    dueOfText(times("cc000;", 6), 6);
    dueOfText(times("cc000;", 7), -2036);
    dueOfText(times("y60;", 16) + "y39;", 17);
    dueOfText(times("y60;", 16) + "y40;", -2064);
    nothingComesWithFault();
  }

  private static void nothingComesWithFault() {
    DeniedOfEachOther x = town("cc000;");
    due(3, "fault behind a change", tell(x, "ch111;w001;y05;w090;"), -2015);
    due(3, "count(0)", x.count(0), 1);
    due(3, "count(1)", x.count(1), 0);
    due(3, "word(0, 0)", x.word(0, 0), 0);
    due(3, "age", x.citizen(0, 2), 0);
    due(3, "count(7)", x.count(7), 0);
    for (int what = 11; what <= 16; what++) due(3, "count(" + what + ")", x.count(what), 0);
    due(3, "town() of nothing", x.town(), -1000);
  }

  private static void promise4() {
    DeniedOfEachOther x = town("cc112;ch223;cw334;cf445;cl556;ck667;a0120120;d3;a4222;");
    for (int i = 0; i < 6; i++) {
      due(4, "kind of " + i, x.citizen(i, 0), i);
      due(4, "figure of " + i, x.citizen(i, 1), i + 1);
      due(4, "age of " + i, x.citizen(i, 2), 12 + 11 * i);
      due(4, "dead of " + i, x.citizen(i, 3), i == 3 ? 1 : 0);
    }
    int[] life = {61, 52, 83, 64, 70, 91};
    for (int i = 0; i < 6; i++) due(4, "life of " + i, x.citizen(i, 4), life[i]);
    due(4, "topics of 0", x.citizen(0, 5), 4);
    due(4, "topics of 4", x.citizen(4, 5), 3);
    due(4, "citizen(6, 0)", x.citizen(6, 0), -1);
    due(4, "citizen(-1, 0)", x.citizen(-1, 0), -1);
    due(4, "citizen(6, 9)", x.citizen(6, 9), -1);
    due(4, "citizen(0, 6)", x.citizen(0, 6), -2);
    due(4, "citizen(0, -1)", x.citizen(0, -1), -2);
    x.dies(4);
    due(4, "topics of one dead", x.citizen(4, 5), 3);
  }

  private static void promise5() {
    DeniedOfEachOther x = town("cc000;a012000002;");
    int[] words = {1, 2, 0, 0, 0, 0, 0, 2};
    for (int t = 0; t < 8; t++) due(5, "word(0, " + t + ")", x.word(0, t), words[t]);
    due(5, "word(1, 0)", x.word(1, 0), -1);
    due(5, "word(-1, 0)", x.word(-1, 0), -1);
    due(5, "word(0, 8)", x.word(0, 8), -1);
    due(5, "word(0, -1)", x.word(0, -1), -1);
    due(5, "count(11)", x.count(11), 4);
    x.dies(0);
    due(5, "word of one dead", x.word(0, 1), 2);
  }

  private static void promise6() {
    DeniedOfEachOther x = town("cc000;cc000;cc000;q010;q107;q121;w022;");
    due(6, "written()", x.written(), 1 + 128 + 2);
    x.dies(2);
    due(6, "written() when one who denied is dead", x.written(), 1 + 128);
    x.says(1, 7, 2);
    due(6, "written() when both say no", x.written(), 1);
  }

  private static void promise7() {
    DeniedOfEachOther x = town("cc000;cc000;");
    due(7, "says(0, 7, 2)", x.says(0, 7, 2), 0);
    due(7, "says(0, 7, 1)", x.says(0, 7, 1), 2);
    due(7, "says(0, 7, 0)", x.says(0, 7, 0), 1);
    due(7, "says(0, 7, 0)", x.says(0, 7, 0), 0);
    due(7, "says(2, 0, 5)", x.says(2, 0, 5), -1);
    due(7, "says(-1, 0, 0)", x.says(-1, 0, 0), -1);
    due(7, "says(0, 8, 5)", x.says(0, 8, 5), -1);
    due(7, "says(0, -1, 0)", x.says(0, -1, 0), -1);
    due(7, "says(0, 0, 3)", x.says(0, 0, 3), -2);
    x.says(1, 0, 1);
    x.dies(1);
    due(7, "says(1, 0, -1) of one dead", x.says(1, 0, -1), -2);
    due(7, "says(1, 0, 2) of one dead", x.says(1, 0, 2), -3);
    due(7, "word(1, 0) after", x.word(1, 0), 1);
    due(7, "count(13)", x.count(13), 1);
  }

  private static void promise8() {
    DeniedOfEachOther x = town("cc007;");
    due(8, "ages(0, 99)", x.ages(0, 99), 7);
    due(8, "he lives until a year", x.citizen(0, 3), 0);
    due(8, "ages(0, 0)", x.ages(0, 0), 99);
    due(8, "ages(1, -1)", x.ages(1, -1), -1);
    due(8, "ages(-1, 0)", x.ages(-1, 0), -1);
    due(8, "ages(0, -1)", x.ages(0, -1), -4);
    due(8, "ages(0, 100)", x.ages(0, 100), -6);
    x.dies(0);
    due(8, "ages of one dead", x.ages(0, 5), 0);
    due(8, "he stays dead", x.citizen(0, 3), 1);
  }

  private static void promise9() {
    DeniedOfEachOther x = town("cc000;cc000;cc000;");
    due(9, "dies(1)", x.dies(1), 2);
    due(9, "dies(1)", x.dies(1), -3);
    due(9, "dies(3)", x.dies(3), -1);
    due(9, "dies(-1)", x.dies(-1), -1);
    due(9, "dies(0)", x.dies(0), 1);
    due(9, "dies(2)", x.dies(2), 0);
    due(9, "citizen(2, 3)", x.citizen(2, 3), 1);
  }

  private static void promise10() {
    DeniedOfEachOther x = town("cl700;");
    due(10, "turn(0, 5, 9)", x.turn(0, 5, 9), 47);
    due(10, "turn(0, 0, 0)", x.turn(0, 0, 0), 59);
    due(10, "turn(1, 9, 0)", x.turn(1, 9, 0), -1);
    due(10, "turn(0, 6, -1)", x.turn(0, 6, -1), -2);
    due(10, "turn(0, -1, 0)", x.turn(0, -1, 0), -2);
    due(10, "turn(0, 0, -1)", x.turn(0, 0, -1), -4);
    due(10, "turn(0, 0, 10)", x.turn(0, 0, 10), -6);
    x.dies(0);
    due(10, "turn of one dead", x.turn(0, 1, 2), 0);
    due(10, "life then", x.citizen(0, 4), 52);
  }

  private static void promise11() {
    DeniedOfEachOther x = town("cw000;cw000;q010;q013;");
    due(11, "years(1)", x.years(1), 2);
    due(11, "years(0)", x.years(0), -4);
    due(11, "years(-7)", x.years(-7), -4);
    due(11, "years(61)", x.years(61), -6);
    due(11, "count(1)", x.count(1), 1);
    due(11, "years(60)", x.years(60), 2);
    due(11, "age", x.citizen(0, 2), 61);
    due(11, "years(18)", x.years(18), 2);
    due(11, "years(1): both are 80", x.years(1), 0);
    for (int i = 0; i < 15; i++) due(11, "years(60)", x.years(60), 0);
    due(11, "count(1)", x.count(1), 980);
    due(11, "years(20)", x.years(20), -6);
    due(11, "years(greatest)", x.years(Integer.MAX_VALUE), -6);
    due(11, "years(19)", x.years(19), 0);
    due(11, "years(1)", x.years(1), -6);
    due(11, "the dead grow no older", x.citizen(0, 2), 80);
  }

  // ---- a YEAR and the KINDS

  private static void yearsOfTheKinds() {
    ages();
    citizensAndFools();
    hiredAndLiars();
    kings();
    oneBehindAnother();
  }

  private static void ages() {
    DeniedOfEachOther x = town("cc058;ch049;cw078;cf058;cl063;ck083;");
    x.years(1);
    due(11, "who is dead behind 1", x.deadThen(0), 2);
    x.years(1);
    due(11, "who is dead behind 2", x.deadThen(0), 63);
    DeniedOfEachOther y = town("cc967;ch957;cw987;cf967;cl972;ck992;");
    y.years(1);
    due(11, "who is dead with figure 9 behind 1", y.deadThen(0), 0);
    y.years(1);
    due(11, "who is dead with figure 9 behind 2", y.deadThen(0), 63);
  }

  private static void citizensAndFools() {
    DeniedOfEachOther x = town("cc000;cw000;cw000;cf000;a012;a1210;a2211;a300002;a101000;");
    // Topic 0: 0 yes, 1 and 2 no. Topic 1: 0 no, 1 yes, 2 yes.
    x.says(0, 0, 1);
    x.says(1, 0, 2);
    x.says(2, 0, 2);
    x.says(0, 1, 2);
    x.says(1, 1, 1);
    x.says(2, 1, 1);
    // Topic 2: two for and two against; topic 3: one against one.
    x.says(0, 2, 1);
    x.says(3, 2, 1);
    x.says(1, 2, 2);
    x.says(2, 2, 2);
    x.says(0, 3, 1);
    x.says(1, 3, 2);
    // Topic 4: the fool alone against two; topic 5: the fool against one.
    x.says(3, 4, 2);
    x.says(1, 4, 1);
    x.says(2, 4, 1);
    x.says(3, 5, 1);
    x.says(1, 5, 2);
    x.years(1);
    due(11, "a citizen alone against two falls silent", x.word(0, 0), 0);
    due(11, "so he does of a no", x.word(0, 1), 0);
    due(11, "two keep their word", x.word(0, 2), 1);
    due(11, "one against one keeps his", x.word(0, 3), 1);
    due(11, "a fool alone against two says the other", x.word(3, 4), 1);
    due(11, "a fool against one keeps his word", x.word(3, 5), 1);
    due(11, "a widow keeps hers", x.word(1, 0), 2);
  }

  private static void hiredAndLiars() {
    DeniedOfEachOther x = town("ch200;cl100;cw000;cw000;");
    x.says(0, 0, 1);
    x.says(1, 1, 1);
    x.says(0, 2, 1);
    x.says(2, 2, 2);
    x.says(3, 2, 2);
    x.says(1, 3, 2);
    x.says(2, 3, 1);
    x.says(3, 3, 1);
    x.years(1);
    due(11, "the hired alone falls silent as a citizen", x.word(0, 2), 0);
    due(11, "the liar alone says the other as a fool", x.word(1, 3), 1);
    x.years(1);
    due(11, "the hired in year 2 of 3", x.word(0, 0), 1);
    due(11, "the liar in year 2 of 3", x.word(1, 1), 1);
    x.years(1);
    due(11, "the hired in year 3 of 3", x.word(0, 0), 0);
    due(11, "the liar in year 3 of 3", x.word(1, 1), 2);
    x.years(3);
    due(11, "the liar in year 6", x.word(1, 1), 1);
    DeniedOfEachOther y = town("ch000;cl000;w001;w111;y01;");
    due(11, "the hired of figure 0 in year 1", y.word(0, 0), 0);
    due(11, "the liar of figure 0 in year 1", y.word(1, 1), 1);
    y.years(1);
    due(11, "the liar of figure 0 in year 2", y.word(1, 1), 2);
  }

  private static void kings() {
    DeniedOfEachOther x = town("ck000;cw000;cw000;w001;w012;w111;w022;w122;w031;w132;w232;y01;");
    due(11, "a king with nobody against", x.word(0, 0), 0);
    due(11, "a king with one against", x.word(0, 1), 2);
    due(11, "a king with all for him", x.word(0, 2), 0);
    due(11, "a king alone against two", x.word(0, 3), 1);
    DeniedOfEachOther y = town("ck000;cw079;q010;y01;");
    due(11, "a king whose only enemy dies that year", y.word(0, 0), 0);
  }

  private static void oneBehindAnother() {
    // The fool 0 turns first, so that the citizen 1 is no longer alone.
    DeniedOfEachOther x = town("cf000;cc000;cw000;cw000;w001;w102;w202;y01;");
    due(11, "the fool turned", x.word(0, 0), 2);
    // 0 falls silent first; then the king 1 has nobody against him.
    DeniedOfEachOther y = town("cc000;ck000;cw000;w001;w102;w202;y01;");
    due(11, "0 fell silent", y.word(0, 0), 0);
    due(11, "so the king does in the same year", y.word(1, 0), 0);
    DeniedOfEachOther z = town("ck000;cc000;cw000;w002;w101;w202;y01;");
    due(11, "a king ahead of him doesn't yet", z.word(0, 0), 2);
    due(11, "1 falls silent behind the king", z.word(1, 0), 0);
    due(11, "the king does a year later", z.wordThen(0, 0, 1), 0);
  }

  // ---- promises 12 to 17

  private static DeniedOfEachOther widowAndLiar() {
    // The liar 1 turns every 5 years, the widow 0 dies at 80: behind 10 years.
    return town("cw070;cl300;w001;w102;w011;w111;");
  }

  private static void promise12() {
    DeniedOfEachOther x = widowAndLiar();
    due(12, "writtenThen(0)", x.writtenThen(0), 1);
    due(12, "writtenThen(4)", x.writtenThen(4), 1);
    due(12, "writtenThen(5)", x.writtenThen(5), 2);
    due(12, "writtenThen(9)", x.writtenThen(9), 2);
    due(12, "writtenThen(10)", x.writtenThen(10), 0);
    due(12, "writtenThen(60)", x.writtenThen(60), 0);
    due(12, "writtenThen(-1)", x.writtenThen(-1), -4);
    due(12, "writtenThen(61)", x.writtenThen(61), -6);
    due(12, "only in thought", x.count(1), 0);
    due(12, "only in thought", x.citizen(0, 2), 70);
    DeniedOfEachOther late = town(times("y60;", 16) + "y39;cl000;cw000;w001;w101;");
    due(12, "writtenThen(1) in the year 1000", late.writtenThen(1), 1);
    due(12, "writtenThen(2) in the year 1001", late.writtenThen(2), 1);
    due(12, "writtenThen(3) in the year 1002", late.writtenThen(3), 0);
  }

  private static void promise13() {
    DeniedOfEachOther x = widowAndLiar();
    due(13, "wordThen(1, 0, 0)", x.wordThen(1, 0, 0), 2);
    due(13, "wordThen(1, 0, 5)", x.wordThen(1, 0, 5), 1);
    due(13, "wordThen(1, 0, 10)", x.wordThen(1, 0, 10), 2);
    due(13, "wordThen(1, 1, 5)", x.wordThen(1, 1, 5), 2);
    due(13, "wordThen(0, 0, 60) of one dead", x.wordThen(0, 0, 60), 1);
    due(13, "wordThen(1, 7, 60)", x.wordThen(1, 7, 60), 0);
    due(13, "wordThen(2, 0, -1)", x.wordThen(2, 0, -1), -1);
    due(13, "wordThen(-1, 0, 0)", x.wordThen(-1, 0, 0), -1);
    due(13, "wordThen(0, 8, 61)", x.wordThen(0, 8, 61), -1);
    due(13, "wordThen(0, -1, 0)", x.wordThen(0, -1, 0), -1);
    due(13, "wordThen(0, 0, -1)", x.wordThen(0, 0, -1), -4);
    due(13, "wordThen(0, 0, 61)", x.wordThen(0, 0, 61), -6);
    due(13, "only in thought", x.word(1, 0), 2);
  }

  private static void promise14() {
    DeniedOfEachOther x = town("cw070;cl300;cc000;d2;");
    due(14, "deadThen(0)", x.deadThen(0), 4);
    due(14, "deadThen(9)", x.deadThen(9), 4);
    due(14, "deadThen(10)", x.deadThen(10), 5);
    due(14, "deadThen(60)", x.deadThen(60), 5);
    due(14, "deadThen(-1)", x.deadThen(-1), -4);
    due(14, "deadThen(61)", x.deadThen(61), -6);
    due(14, "only in thought", x.count(2), 2);
    x.ages(1, 8);
    due(14, "deadThen(59): he is 67", x.deadThen(59), 5);
    due(14, "deadThen(60): he is 68", x.deadThen(60), 7);
  }

  private static void promise15() {
    DeniedOfEachOther x = town("cw000;cw000;cw078;q010;q022;q125;w052;");
    due(15, "lasts(0) for ever", x.lasts(0), -9);
    due(15, "lasts(1) is not now", x.lasts(1), 0);
    due(15, "lasts(2)", x.lasts(2), 2);
    due(15, "lasts(5): 0 denies it too", x.lasts(5), -9);
    due(15, "lasts(8)", x.lasts(8), -1);
    due(15, "lasts(-1)", x.lasts(-1), -1);
    x.ages(0, 20);
    due(15, "lasts(0) until 0 is 80", x.lasts(0), 60);
    x.ages(0, 19);
    due(15, "lasts(0) a year longer", x.lasts(0), -9);
    DeniedOfEachOther y = town("cl000;cw000;w001;w102;");
    due(15, "a liar's no becomes a yes, for a while", y.lasts(0), 2);
  }

  private static void promise16() {
    DeniedOfEachOther x = town("cw000;cw000;cw070;cw060;q017;q036;q025;q124;w041;");
    due(16, "lost(0)", x.lost(0), 4);
    due(16, "lost(1)", x.lost(1), 10);
    x.dies(2);
    due(16, "lost(0) then", x.lost(0), 6);
    due(16, "lost(1) then", x.lost(1), 20);
    x.dies(3);
    due(16, "lost(0) of what never ends", x.lost(0), -9);
    due(16, "lost(1) of what never ends", x.lost(1), -9);
    x.ages(1, 20);
    due(16, "lost(1) in the last year", x.lost(1), 60);
    x.ages(1, 19);
    due(16, "lost(1) a year later", x.lost(1), -9);
    due(16, "lost(2)", x.lost(2), -2);
    due(16, "lost(-1)", x.lost(-1), -2);
    x.dies(0);
    due(16, "lost(0) of nothing", x.lost(0), -9);
    due(16, "lost(1) of nothing", x.lost(1), -9);
  }

  private static void promise17() {
    DeniedOfEachOther x = town("cw077;cw000;q010;");
    due(17, "still(0)", x.still(0), 0);
    due(17, "still(1)", x.still(1), 3);
    x.years(2);
    due(17, "still(0): one dies", x.still(0), 1);
    due(17, "still(1)", x.still(1), 1);
    due(17, "still(2)", x.still(2), -2);
    due(17, "still(-1)", x.still(-1), -2);
    DeniedOfEachOther y = town("cl000;cw000;w001;w112;");
    y.says(0, 0, 1);
    due(17, "still(0) between a liar's years", y.still(0), 0);
    y.years(1);
    due(17, "still(0) in a liar's year", y.still(0), 1);
    DeniedOfEachOther z = town("ch900;ch800;w001;w102;y08;");
    due(17, "still(0): a hired one each year", z.still(0), 2);
    due(17, "still(1)", z.still(1), 1);
    DeniedOfEachOther v = town("cw000;cw000;q010;");
    due(17, "still(1) never", v.still(1), -9);
    v.ages(0, 20);
    due(17, "still(1) in the last year", v.still(1), 60);
    DeniedOfEachOther u = town("cl000;cl000;cl000;cl100;cl300;cl500;a01;a11;a21;a31;a41;a51;");
    due(17, "still(0) of years 2, 3, 5 and 7 alone: ahead of year 1", u.still(0), 0);
    u.years(1);
    due(17, "still(0): 11 is the first year that none divides", u.still(0), 9);
  }

  // ---- promises 18 to 28

  private static void promise18() {
    DeniedOfEachOther x = town("cc000;cc000;cc000;cc000;q010;q021;q122;w031;");
    due(18, "chapter(0)", x.chapter(0), 2);
    due(18, "chapter(1)", x.chapter(1), 2);
    due(18, "chapter(2)", x.chapter(2), 2);
    due(18, "chapter(3)", x.chapter(3), 0);
    due(18, "chapter(-1)", x.chapter(-1), 0);
    x.says(2, 0, 1);
    due(18, "chapter(-1) when 2 has most", x.chapter(-1), 2);
    x.dies(2);
    due(18, "chapter(2) of one dead", x.chapter(2), 0);
    due(18, "chapter(-1) then", x.chapter(-1), 0);
    x.dies(0);
    due(18, "chapter(-1) with none in the book", x.chapter(-1), 1);
    x.dies(1);
    x.dies(3);
    due(18, "chapter(-1) of nobody", x.chapter(-1), -9);
    due(18, "chapter(4)", x.chapter(4), -1);
    due(18, "chapter(-2)", x.chapter(-2), -1);
  }

  private static void promise19() {
    DeniedOfEachOther x = town("cw070;cw060;cw050;");
    due(19, "quarrel(0): the two who live longest, 20 years", x.quarrel(0), 12);
    x.ages(0, 50);
    due(19, "quarrel(0): 0 and 2 now, 30 years", x.quarrel(0), 2);
    x.ages(1, 50);
    due(19, "quarrel(0): all alike", x.quarrel(0), 1);
    x.dies(0);
    due(19, "quarrel(0) without 0", x.quarrel(0), 12);
    x.dies(1);
    due(19, "quarrel(0) of one", x.quarrel(0), -9);
    due(19, "quarrel(8)", x.quarrel(8), -1);
    due(19, "quarrel(-1)", x.quarrel(-1), -1);
    DeniedOfEachOther y = town("cw020;cw019;cw000;");
    due(19, "never ending is longer than 60 years", y.quarrel(3), 12);
    // What the third says counts: 2 says yes of topic 0 for ever, so 0 (a citizen) and 1 had better both ..
    DeniedOfEachOther z = town("cc070;cw000;cw000;w201;");
    due(19, "the yes of 2 stays beside: 0 may say yes, too", z.quarrel(0), 1);
    due(19, "where nothing is said, 1 and 2", z.quarrel(1), 12);
    due(19, "nothing is changed", z.written(), 0);
  }

  private static void promise20() {
    DeniedOfEachOther x = town("cc000;");
    due(20, "keeps() of one", x.keeps(), -9);
    tell(x, "cc000;");
    due(20, "keeps() of two silent ones", x.keeps(), 16);
    x.says(0, 0, 1);
    due(20, "keeps() with a yes", x.keeps(), 15);
    x.says(1, 0, 1);
    due(20, "keeps() with two of them", x.keeps(), 15);
    x.says(1, 0, 2);
    due(20, "keeps() with one written", x.keeps(), 14);
    x.says(1, 7, 2);
    due(20, "keeps() with a no", x.keeps(), 13);
    tell(x, "cc000;w201;");
    due(20, "keeps() with a third", x.keeps(), 13);
    x.dies(1);
    due(20, "keeps() without 1", x.keeps(), 15);
    x.dies(0);
    due(20, "keeps() of one who lives", x.keeps(), -9);
  }

  private static void promise21() {
    DeniedOfEachOther x = town("cc000;cc000;cc000;q010;w111;w222;w251;w152;");
    due(21, "silent(0)", x.silent(0), 255 - 1 - 2 - 4 - 32);
    due(21, "silent(1)", x.silent(1), 2 + 4);
    x.dies(2);
    due(21, "silent(0) without 2", x.silent(0), 255 - 1 - 2 - 32);
    due(21, "silent(1) without 2", x.silent(1), 2 + 32);
    due(21, "silent(2)", x.silent(2), -2);
    due(21, "silent(-1)", x.silent(-1), -2);
  }

  private static void promise22() {
    DeniedOfEachOther x = town("cw000;cw000;cw070;q010;q122;q021;q125;q124;");
    due(22, "lives(0, 0)", x.lives(0, 0), 1);
    due(22, "lives(0, 1)", x.lives(0, 1), 1);
    due(22, "lives(10, 0): 2 is dead by then", x.lives(10, 0), 0);
    due(22, "lives(10, 1)", x.lives(10, 1), 0);
    due(22, "lives(-1, 5)", x.lives(-1, 5), -4);
    due(22, "lives(61, 5)", x.lives(61, 5), -6);
    due(22, "lives(60, 2)", x.lives(60, 2), -2);
    due(22, "lives(0, -1)", x.lives(0, -1), -2);
    x.dies(1);
    due(22, "lives(0, 0) without 1", x.lives(0, 0), 0);
    x.dies(0);
    due(22, "lives(0, 0) of one", x.lives(0, 0), 2);
    x.dies(2);
    due(22, "lives(0, 0) of nobody", x.lives(0, 0), -9);
    due(22, "lives(0, 1) of nobody", x.lives(0, 1), -9);
    // Without the enemy 1, the citizen 0 is not alone against two and stays.
    DeniedOfEachOther y = town("cc000;cw000;cw000;w001;w102;w202;");
    due(22, "who is dead now helps another one to his word", y.lives(1, 1), 0);
    due(22, "of several the least", y.lives(1, 0), 0);
  }

  private static void promise23() {
    DeniedOfEachOther x = town("cc000;cw000;cw000;w001;w102;w202;");
    due(23, "heir(0): no more than else", x.heir(0), -9);
    due(23, "heir(1): 0 would keep his word", x.heir(1), 0);
    due(23, "heir(-1)", x.heir(-1), -4);
    due(23, "heir(61)", x.heir(61), -6);
    due(23, "heir(60): 0 has sixty years", x.heir(60), 0);
    x.dies(0);
    due(23, "heir(1) of those who live", x.heir(1), -9);
    // Two hired: of each other's topic; 2 would keep two of them.
    DeniedOfEachOther y = town("ch000;ch000;cw000;q020;q121;");
    due(23, "of several the least", y.heir(1), 0);
    y.says(1, 2, 1);
    y.says(2, 2, 2);
    due(23, "the one with most", y.heir(1), 1);
    due(23, "nothing is changed", y.citizen(1, 0), 1);
  }

  private static void promise24() {
    DeniedOfEachOther x = town("cc000;cc000;cc000;cc000;w001;w101;w202;w012;w112;w211;w021;w122;");
    x.says(0, 3, 2);
    due(24, "so(0): most say yes", x.so(0), 1);
    due(24, "so(1): most say no", x.so(1), 2);
    due(24, "so(2): alike", x.so(2), 1);
    due(24, "so(3): a no alone", x.so(3), 2);
    due(24, "so(4): nobody", x.so(4), 0);
    due(24, "so(-1)", x.so(-1), 3);
    x.dies(0);
    due(24, "so(0) without 0", x.so(0), 1);
    due(24, "so(2) without 0", x.so(2), 2);
    due(24, "so(3) without 0", x.so(3), 0);
    due(24, "so(-1) without 0", x.so(-1), 2);
    due(24, "so(8)", x.so(8), -1);
    due(24, "so(-2)", x.so(-2), -1);
  }

  private static void promise25() {
    DeniedOfEachOther x = town("cc000;cc000;cc000;cc000;");
    due(25, "leastLiars() of nothing", x.leastLiars(), 0);
    tell(x, "q010;");
    due(25, "either: the least", x.leastLiars(), 1);
    tell(x, "q121;");
    due(25, "one in both", x.leastLiars(), 2);
    tell(x, "q232;");
    due(25, "two of a chain of four, of three such the least", x.leastLiars(), 1 + 4);
    x.dies(1);
    due(25, "without 1", x.leastLiars(), 4);
    tell(x, "q203;q030;");
    due(25, "two of three who each deny the others", x.leastLiars(), 5);
    DeniedOfEachOther y = town("cc000;cc000;cc000;cc000;w001;w101;w202;");
    due(25, "one against two", y.leastLiars(), 4);
    y.says(3, 0, 2);
    due(25, "two against two: the least", y.leastLiars(), 3);
  }

  private static void promise26() {
    DeniedOfEachOther x = town("cc000;");
    due(26, "differ(0) of one", x.differ(0), -9);
    due(26, "differ(1) of one", x.differ(1), -9);
    due(26, "differ(2) of one", x.differ(2), 0);
    tell(x, "cc000;cc000;cc000;");
    due(26, "differ(0) of nothing: the first two", x.differ(0), 1);
    due(26, "differ(1) of nothing", x.differ(1), 0);
    due(26, "differ(2) of nothing", x.differ(2), 0);
    tell(x, "q230;q235;q011;");
    due(26, "differ(0)", x.differ(0), 23);
    due(26, "differ(1)", x.differ(1), 2);
    due(26, "differ(2)", x.differ(2), 2);
    tell(x, "q016;");
    due(26, "differ(0): of several the first", x.differ(0), 1);
    x.dies(0);
    due(26, "differ(0) without 0", x.differ(0), 23);
    due(26, "differ(2) without 0", x.differ(2), 1);
    due(26, "differ(3)", x.differ(3), -2);
    due(26, "differ(-1)", x.differ(-1), -2);
    pairsNeedThought();
  }

  private static void pairsNeedThought() {
    // A chain 0-1-2-3-4-5 and what a greedy pairing of 1-2 would spoil.
    DeniedOfEachOther x = town("cc000;cc000;cc000;cc000;cc000;cc000;q120;q011;q232;q343;q454;");
    due(26, "differ(2) of a chain of six", x.differ(2), 3);
    x.says(0, 1, 0);
    due(26, "differ(2) of a chain of five", x.differ(2), 2);
    DeniedOfEachOther star = town("cc000;cc000;cc000;cc000;w001;w102;w202;w302;");
    due(26, "differ(2) of a star", star.differ(2), 1);
  }

  private static void promise27() {
    DeniedOfEachOther x = town("cc000;cc000;cc000;cc000;q010;q021;w011;w301;");
    due(27, "friends(0)", x.friends(0), 8);
    due(27, "friends(1)", x.friends(1), 4);
    due(27, "friends(2)", x.friends(2), 2 + 8);
    due(27, "friends(3)", x.friends(3), 1 + 4);
    due(27, "friends(4)", x.friends(4), -1);
    due(27, "friends(-1)", x.friends(-1), -1);
    x.dies(2);
    due(27, "friends(2) of one dead", x.friends(2), -3);
    due(27, "friends(3) without him", x.friends(3), 1);
  }

  private static void promise28() {
    DeniedOfEachOther x = town("cc000;cc000;cc000;cc000;");
    due(28, "gives() of nothing", x.gives(), 0);
    tell(x, "w001;w101;w202;w302;w012;w111;w212;w321;");
    due(28, "gives()", x.gives(), 3);
    x.dies(1);
    due(28, "gives() without 1", x.gives(), 1);
  }

  // ---- promises 29 to 36

  private static void promise29() {
    DeniedOfEachOther x = town("cw000;cw000;cw000;q010;d2;");
    due(29, "two(0, 1, 0, 0): each wants his chapter", x.two(0, 1, 0, 0), 0);
    due(29, "two(0, 1, 0, 60)", x.two(0, 1, 0, 60), 0);
    due(29, "two(0, 1, 7, 1)", x.two(0, 1, 7, 1), 0);
    due(29, "two(0, 0, 0, -1)", x.two(0, 0, 0, -1), -1);
    due(29, "two(3, 0, 0, 0)", x.two(3, 0, 0, 0), -1);
    due(29, "two(0, -1, 0, 0)", x.two(0, -1, 0, 0), -1);
    due(29, "two(0, 1, 8, 99)", x.two(0, 1, 8, 99), -1);
    due(29, "two(0, 2, 0, -1) with one dead", x.two(0, 2, 0, -1), -4);
    due(29, "two(0, 2, 0, 61) with one dead", x.two(0, 2, 0, 61), -6);
    due(29, "two(0, 2, 0, 0) with one dead", x.two(0, 2, 0, 0), -3);
    due(29, "two(2, 0, 0, 0) with one dead", x.two(2, 0, 0, 0), -3);
    due(29, "nothing is changed", x.written(), 1);
  }

  private static void promise30() {
    // The widow 0 is dead at 80: behind 2 mild years, or behind a cold one.
    DeniedOfEachOther x = town("cw078;cw000;q010;");
    dueWinter(x, 0, 0, 2, 1, 1);
    dueWinter(x, 0, 1, 2, 1, 2);
    dueWinter(x, 0, 1, 20, 19, 20);
    dueWinter(x, 0, 2, 3, 0, 1);
    x.ages(0, 72);
    // With two years: 74 mild, 79 with one cold, 84 with two.
    dueWinter(x, 0, 2, 4, 15, 16);
    // With three: one cold makes 80, so that none may be.
    dueWinter(x, 0, 3, 4, 27, 64);
    dueWinter(x, 1, 3, 4, 0, 1);
    dueWinter(x, 0, 2, 3, 8, 9);
    dueWinter(x, 0, 2, 2, 3, 4);
    x.ages(0, 0);
    dueWinter(x, 0, 7, 20, 1, 1);
    x.ages(0, 67);
    // 74 and 5 for each cold one: two are too many; 19 ^ 7 and 7 times 19 ^ 6 of 20 ^ 7, by 2.
    dueWinter(x, 0, 7, 20, (893871739L + 7L * 47045881L) / 2, 640000000L);
    // 2 ^ 7 of odds with 3: 3 ^ 7 = 2187, none or one cold: 128 + 7 * 64 = 576 of 2187 = 64 of 243.
    dueWinter(x, 0, 7, 3, 64, 243);
    due(30, "winter(8, 9, 1, 2)", x.winter(8, 9, 1, 2), REFUSED + 1);
    due(30, "winter(-1, 0, 2, 0)", x.winter(-1, 0, 2, 0), REFUSED + 1);
    due(30, "winter(0, -1, 21, 2)", x.winter(0, -1, 21, 2), REFUSED + 4);
    due(30, "winter(0, 8, 1, 2)", x.winter(0, 8, 1, 2), REFUSED + 4);
    due(30, "winter(0, 8, 2, 2)", x.winter(0, 8, 2, 2), REFUSED + 6);
    due(30, "winter(0, 7, 21, 2)", x.winter(0, 7, 21, 2), REFUSED + 6);
    due(30, "winter(0, 7, 20, 2)", x.winter(0, 7, 20, 2), REFUSED + 2);
    due(30, "winter(0, 7, 20, -1)", x.winter(0, 7, 20, -1), REFUSED + 2);
    due(30, "count(12)", x.count(12), 2);
    due(30, "only in thought", x.citizen(0, 2), 67);
  }

  private static void dueWinter(DeniedOfEachOther x, int topic, int n, int t, long above, long below) {
    String call = "winter(" + topic + ", " + n + ", " + t + ", ";
    due(30, call + "0)", x.winter(topic, n, t, 0), above);
    due(30, call + "1)", x.winter(topic, n, t, 1), below);
  }

  private static void promise31() {
    DeniedOfEachOther x = new DeniedOfEachOther();
    dueMean(x, 0, 1);
    tell(x, "cc000;cc000;");
    dueMean(x, 0, 1);
    tell(x, "cc009;");
    dueMean(x, 3, 1);
    x.dies(0);
    dueMean(x, 9, 2);
    tell(x, "cc035;cc000;");
    dueMean(x, 11, 1);
    x.ages(4, 6);
    dueMean(x, 25, 2);
    due(31, "mean(2)", x.mean(2), REFUSED + 2);
    due(31, "mean(-1)", x.mean(-1), REFUSED + 2);
  }

  private static void dueMean(DeniedOfEachOther x, long above, long below) {
    due(31, "mean(0)", x.mean(0), above);
    due(31, "mean(1)", x.mean(1), below);
  }

  private static void promise32() {
    DeniedOfEachOther x = town("cc100;cw000;w001;");
    due(32, "whatIs(0, 0, 0) of an empty row", x.whatIs(0, 0, 0), 63);
    due(32, "whatIs(0, 0, 1) of an empty row", x.whatIs(0, 0, 1), 1023);
    rowOf(x, 1, 1);
    // Behind a year: a king has nobody against him.
    due(32, "whatIs(0, 0, 0) yes, yes", x.whatIs(0, 0, 0), 63 - 32);
    rowOf(x, 0);
    due(32, "a hired one of figure 1 behind 2", x.whatIs(0, 0, 0), 2);
    due(32, "no figure makes a citizen silent", x.whatIs(0, 0, 1), 0);
    due(32, "the row stays", x.count(6), 3);
    x.turn(0, 1, 5);
    due(32, "a hired one of figure 5: he isn't, but 1 is", x.whatIs(0, 0, 1), 2);
    x.clear();
    rowOf(x, 1, 1, 2, 2, 1);
    due(32, "a liar of figure 0 says the other each second year", x.whatIs(0, 0, 0), 0);
    x.turn(0, 1, 0);
    due(32, "a liar of figure 0", x.whatIs(0, 0, 0), 16);
    x.turn(0, 4, 9);
    due(32, "a liar: of figure 0", x.whatIs(0, 0, 1), 1);
    x.clear();
    rowOf(x, 3);
    due(32, "a row that is no word", x.whatIs(0, 0, 1), 0);
    due(32, "whatIs(2, 8, 2)", x.whatIs(2, 8, 2), -1);
    due(32, "whatIs(-1, 0, 0)", x.whatIs(-1, 0, 0), -1);
    due(32, "whatIs(0, 8, 2)", x.whatIs(0, 8, 2), -1);
    due(32, "whatIs(0, -1, 0)", x.whatIs(0, -1, 0), -1);
    due(32, "whatIs(0, 0, 2)", x.whatIs(0, 0, 2), -2);
    due(32, "whatIs(0, 0, -1)", x.whatIs(0, 0, -1), -2);
    due(32, "nothing is changed", x.citizen(0, 0) * 10 + x.citizen(0, 1), 49);
  }

  private static void rowOf(DeniedOfEachOther x, int... numbers) {
    for (int v : numbers) x.row(v);
  }

  private static void promise33() {
    DeniedOfEachOther x = new DeniedOfEachOther();
    due(33, "row(0)", x.row(0), 1);
    due(33, "row(99)", x.row(99), 2);
    due(33, "row(100)", x.row(100), -6);
    due(33, "row(-1)", x.row(-1), -4);
    for (int i = 3; i <= 16; i++) due(33, "row " + i, x.row(1), i);
    due(33, "row 17", x.row(1), -6);
    due(33, "row(-1) when full", x.row(-1), -4);
    due(33, "count(6)", x.count(6), 16);
  }

  private static void promise34() {
    DeniedOfEachOther x = town("cw078;cw000;q010;q013;");
    rowOf(x, 2, 2, 0, 0);
    due(34, "judge() of what is so", x.judge(), -9);
    due(34, "count(6)", x.count(6), 0);
    rowOf(x, 2, 2, 2, 0);
    due(34, "judge(): two years on there is none", x.judge(), 2);
    due(34, "count(6)", x.count(6), 0);
    rowOf(x, 1);
    due(34, "judge() of now", x.judge(), 0);
    due(34, "judge() of nothing", x.judge(), -9);
    for (int i = 0; i < 16; i++) x.row(i < 2 ? 2 : i == 15 ? 1 : 0);
    due(34, "judge() of the last", x.judge(), 15);
    due(34, "only in thought", x.count(1), 0);
  }

  private static void promise35() {
    DeniedOfEachOther x = new DeniedOfEachOther();
    due(35, "clear() of none", x.clear(), 0);
    rowOf(x, 1, 2, 3);
    due(35, "clear()", x.clear(), 3);
    due(35, "clear() again", x.clear(), 0);
    due(35, "row(9)", x.row(9), 1);
  }

  private static void promise36() {
    DeniedOfEachOther x = town("cw000;cw000;cw070;cw000;d3;");
    due(36, "lots(1, 5, 1): 2 dies behind ten years", x.lots(1, 5, 1), 2);
    due(36, "lots(20, 5, 1)", x.lots(20, 5, 1), 40);
    due(36, "lots(1, 5, 0)", x.lots(1, 5, 0), lotsOfWidows(1, 5));
    due(36, "lots(20, 5, 0)", x.lots(20, 5, 0), lotsOfWidows(20, 5));
    due(36, "lots(20, -1, 0)", x.lots(20, -1, 0), lotsOfWidows(20, -1));
    due(36, "lots(7, least, 0)", x.lots(7, Integer.MIN_VALUE, 0), lotsOfWidows(7, Integer.MIN_VALUE));
    due(36, "lots(0, 0, 5)", x.lots(0, 0, 5), -4);
    due(36, "lots(21, 0, 5)", x.lots(21, 0, 5), -6);
    due(36, "lots(20, 0, 2)", x.lots(20, 0, 2), -2);
    due(36, "lots(20, 0, -1)", x.lots(20, 0, -1), -2);
    due(36, "nothing is changed", x.count(4), 0);
    DeniedOfEachOther y = town("cw070;cw069;");
    due(36, "who is 79 behind ten years lives still", y.lots(3, 1, 1), 3);
  }

  /** Three draw their words, of whom the first two are left. */
  private static int lotsOfWidows(int n, int seed) {
    int z = seed;
    int written = 0;
    for (int i = 0; i < n; i++) {
      int[] drawn = new int[24];
      for (int d = 0; d < 24; d++) {
        z = z * 1664525 + 1013904223;
        drawn[d] = (int) ((z & 0x7fffffffL) / 256L % 3L);
      }
      for (int t = 0; t < 8; t++) {
        if (drawn[t] != 0 && drawn[8 + t] != 0 && drawn[t] != drawn[8 + t]) written++;
      }
    }
    return written;
  }

  // ---- promises 37 to 39

  private static void promise37and38() {
    DeniedOfEachOther x = new DeniedOfEachOther();
    due(38, "on() without an image", x.on(), -3);
    due(38, "count(13)", x.count(13), 1);
    tell(x, "cc305;cw406;q010;y02;");
    due(37, "image()", x.image(), 2);
    x.row(7);
    x.letter('c');
    x.letter(-1);
    x.years(3);
    x.dies(1);
    x.turn(0, 4, 4);
    x.ages(0, 50);
    x.says(0, 0, 2);
    tell(x, "d0;ck000;");
    x.letter('d');
    due(38, "on()", x.on(), 2);
    due(38, "count(0)", x.count(0), 2);
    due(38, "count(1)", x.count(1), 2);
    due(38, "count(2)", x.count(2), 2);
    due(38, "kind and figure", 10 * x.citizen(0, 0) + x.citizen(0, 1), 3);
    due(38, "age", x.citizen(0, 2), 7);
    due(38, "word(0, 0)", x.word(0, 0), 1);
    due(38, "written()", x.written(), 1);
    due(38, "the row is as it was", x.count(6), 1);
    due(38, "letters are as they were", x.count(7), 1);
    due(38, "refusals are as they were", x.count(14), 1);
    x.years(5);
    due(38, "on() again", x.on(), 2);
    x.years(1);
    due(37, "image() again", x.image(), 3);
    x.years(1);
    due(38, "on() from the newer", x.on(), 3);
    due(38, "what is changed behind an image is not in it", x.says(0, 0, 0), 1);
    x.on();
    due(38, "word(0, 0) in the image", x.word(0, 0), 1);
  }

  private static void promise39() {
    DeniedOfEachOther x = town("cc010;cw020;cw040;q010;q017;w221;d2;y03;");
    x.letter('c');
    x.letter('c');
    x.row(5);
    int[] counts = {3, 3, 2, 2, 4, 36, 1, 2, -9, -9, -9};
    for (int what = 0; what < counts.length; what++) due(39, "count(" + what + ")", x.count(what), counts[what]);
    x.word(9, 9);
    x.lost(5);
    x.lost(5);
    x.dies(2);
    x.dies(2);
    x.dies(2);
    for (int i = 0; i < 4; i++) x.row(-1);
    for (int i = 0; i < 6; i++) x.row(100);
    x.mean(7);
    x.winter(-1, 0, 0, 0);
    int[] refusals = {2, 3, 3, 4, 0, 6};
    for (int i = 0; i < 6; i++) due(39, "count(" + (11 + i) + ")", x.count(11 + i), refusals[i]);
    due(39, "count(17)", x.count(17), -9);
    due(39, "count(-1)", x.count(-1), -9);
    due(39, "count(least)", x.count(Integer.MIN_VALUE), -9);
    due(39, "count(greatest)", x.count(Integer.MAX_VALUE), -9);
    due(39, "another what is not refused", x.count(12), 3);
  }
}
