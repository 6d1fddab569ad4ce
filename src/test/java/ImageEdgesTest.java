/** The edges that the document names of THE IMAGE and of what is counted: promises 37 to 39. */
public final class ImageEdgesTest {
  public static void main(String[] args) {
    emptyImage();
    fullImage();
    notInTheImage();
    imagesOfImages();
    countsOfTheEmpty();
    countsOfTheFull();
    countsOfThoseWhoLive();
    countsOfRefusals();
    Due.end();
  }

  // ---- promises 37 and 38

  private static void emptyImage() {
    Due.says(38, "-3 there is none");
    DeniedOfEachOther x = new DeniedOfEachOther();
    Due.is("on()", x.on(), -3);
    Due.tell(x, "cc000;y03;");
    Due.is("on()", x.on(), -3);
    Due.is("count(0)", x.count(0), 1);
    Due.is("count(13)", x.count(13), 2);
    Due.says(37, "THE IMAGE is taken: YEAR");
    DeniedOfEachOther y = new DeniedOfEachOther();
    Due.is("image() of nothing", y.image(), 0);
    Due.tell(y, "cw000;cw000;q017;y60;");
    Due.says(38, "ON from it all is as then: YEAR");
    Due.is("on()", y.on(), 0);
    Due.is("count(0)", y.count(0), 0);
    Due.is("count(1)", y.count(1), 0);
    Due.is("count(2)", y.count(2), 0);
    Due.is("written()", y.written(), 0);
    Due.is("citizen(0, 0)", y.citizen(0, 0), -1);
    Due.is("one who comes then says nothing", 100 * Due.tell(y, "cc000;") + y.citizen(0, 5), 100);
    Due.is("image() in 999", Due.inYear(999).image(), 999);
  }

  private static void fullImage() {
    Due.says(37, "THE IMAGE: all that there is");
    DeniedOfEachOther x = fullTown();
    DeniedOfEachOther twin = fullTown();
    Due.is("image()", x.image(), 999);
    for (int i = 0; i < 6; i++) {
      x.turn(i, 5 - i, 9 - i);
      x.ages(i, 99 - i);
      for (int t = 0; t <= 7; t++) x.says(i, t, (x.word(i, t) + 1) % 3);
    }
    x.dies(0);
    x.dies(5);
    Due.says(38, "ON from it all is as then: YEAR");
    Due.is("on()", x.on(), 999);
    for (int i = 0; i < 6; i++) {
      for (int what = 0; what <= 5; what++) Due.is("citizen(" + i + ", " + what + ")", x.citizen(i, what), twin.citizen(i, what));
      for (int t = 0; t <= 7; t++) Due.is("word(" + i + ", " + t + ")", x.word(i, t), twin.word(i, t));
    }
    for (int what = 0; what <= 5; what++) Due.is("count(" + what + ")", x.count(what), twin.count(what));
    Due.is("years(1)", x.years(1), -6);
  }

  private static DeniedOfEachOther fullTown() {
    DeniedOfEachOther x = Due.inYear(999);
    Due.tell(x, "cc340;ch225;cw930;cf145;cl062;ck588;d4;");
    Due.tell(x, "a012012012;a112001212;a221212121;a322222222;a511111122;");
    return x;
  }

  private static void notInTheImage() {
    Due.says(37, "all that there is, but it, the ROW, letters, REFUSALS");
    DeniedOfEachOther x = Due.town("cw000;cw000;q010;");
    Due.withRow(x, 1, 1);
    Due.letters(x, "w0");
    x.word(2, 0);
    x.image();
    Due.withRow(x, 1);
    Due.letters(x, "71;");
    x.word(2, 0);
    x.lost(2);
    x.says(0, 0, 0);
    Due.is("on()", x.on(), 0);
    Due.is("count(6)", x.count(6), 3);
    Due.is("count(7)", x.count(7), 5);
    Due.is("count(11)", x.count(11), 2);
    Due.is("count(12)", x.count(12), 1);
    Due.is("judge() of the ROW as it is", x.judge(), -9);
    Due.is("town() of the letters as they are", x.town(), 1);
    Due.is("word(0, 7)", x.word(0, 7), 1);
    x.on();
    Due.is("count(6) behind judge()", x.count(6), 0);
    Due.is("count(7) behind town()", x.count(7), 0);
    Due.is("word(0, 7) behind on()", x.word(0, 7), 0);
    Due.is("word(0, 0) behind on()", x.word(0, 0), 1);
  }

  private static void imagesOfImages() {
    Due.says(38, "ON from it: again and again, and from the newest alone");
    DeniedOfEachOther x = Due.town("cw000;cw000;q010;y01;");
    x.image();
    for (int i = 0; i < 3; i++) {
      x.years(60);
      Due.is("on()", x.on(), 1);
      Due.is("citizen(0, 2)", x.citizen(0, 2), 1);
    }
    x.years(2);
    Due.is("image()", x.image(), 3);
    x.dies(0);
    Due.is("on()", x.on(), 3);
    Due.is("citizen(0, 3)", x.citizen(0, 3), 0);
    x.says(0, 0, 2);
    x.image();
    x.says(0, 0, 1);
    x.on();
    Due.is("word(0, 0)", x.word(0, 0), 2);
    DeniedOfEachOther y = Due.town("cw000;cw000;q010;");
    y.image();
    Due.tell(y, "cw000;cw000;cw000;cw000;");
    Due.is("one more than six", Due.tell(y, "cw000;"), -2000);
    y.on();
    Due.is("four more than two again", Due.tell(y, "cw000;cw000;cw000;cw000;"), 4);
    Due.is("who came and went says nothing", y.citizen(5, 5), 0);
  }

  // ---- promise 39

  private static void countsOfTheEmpty() {
    Due.says(39, "0 CITIZENS, 1 YEAR, 2 how many live, 3 how many TOPICS are WRITTEN, 4 WORDS, 5 AGES, 6 in the ROW, 7 letters");
    DeniedOfEachOther x = new DeniedOfEachOther();
    for (int what = 0; what <= 7; what++) Due.is("count(" + what + ")", x.count(what), 0);
    Due.says(39, "-9 for another what");
    int[] others = {-1, 8, 9, 10, 17, 18, 100, -11, Due.LEAST, Due.LEAST + 11, Due.GREATEST};
    for (int what : others) Due.is("count(" + what + ")", x.count(what), -9);
    for (int what = 11; what <= 16; what++) Due.is("count(" + what + ")", x.count(what), 0);
  }

  private static void countsOfTheFull() {
    Due.says(39, "0 CITIZENS, 1 YEAR, 2 how many live, 3 how many TOPICS are WRITTEN, 4 WORDS, 5 AGES, 6 in the ROW, 7 letters");
    DeniedOfEachOther x = Due.inYear(999);
    Due.tell(x, "cc099;".repeat(6));
    for (int i = 0; i < 6; i++) {
      for (int t = 0; t <= 7; t++) x.says(i, t, 1 + (i + t) % 2);
    }
    for (int i = 0; i < 16; i++) x.row(i);
    for (int i = 0; i < 96; i++) x.letter('c');
    int[] due = {6, 999, 6, 8, 48, 594, 16, 96};
    for (int what = 0; what <= 7; what++) Due.is("count(" + what + ")", x.count(what), due[what]);
    x.row(0);
    x.letter('c');
    Due.is("count(6) behind a refusal", x.count(6), 16);
    Due.is("count(7) behind a refusal", x.count(7), 96);
  }

  private static void countsOfThoseWhoLive() {
    Due.says(39, "2 how many live, 4 WORDS that are something, of those who live, 5 all AGES of those who live");
    DeniedOfEachOther x = Due.town("cc001;cc002;cc004;cc008;cc016;cc032;a01;a112;a2121;a31212;a412121;a5121212;");
    int live = 6;
    int words = 1 + 2 + 3 + 4 + 5 + 6;
    int ages = 63;
    for (int i = 0; i < 6; i++) {
      Due.is("count(2)", x.count(2), live);
      Due.is("count(4)", x.count(4), words);
      Due.is("count(5)", x.count(5), ages);
      x.dies(i);
      live--;
      words -= i + 1;
      ages -= 1 << i;
    }
    for (int what = 0; what <= 5; what++) Due.is("count(" + what + ") of the DEAD", x.count(what), what == 0 ? 6 : 0);
  }

  private static void countsOfRefusals() {
    Due.says(39, "11 .. 16 REFUSALS -1 .. -6");
    DeniedOfEachOther x = Due.town("cc000;d0;");
    for (int i = 0; i < 7; i++) x.word(1, 0);
    for (int i = 0; i < 6; i++) x.still(2);
    x.winter(8, 0, 2, 0);
    x.mean(2);
    for (int i = 0; i < 5; i++) x.dies(0);
    for (int i = 0; i < 4; i++) x.row(-1);
    for (int i = 0; i < 3; i++) x.years(61);
    x.winter(0, -1, 2, 0);
    x.winter(0, 8, 2, 0);
    int[] due = {8, 7, 5, 5, 0, 4};
    for (int i = 0; i < 6; i++) Due.is("count(" + (11 + i) + ")", x.count(11 + i), due[i]);
    Due.says(39, "two that fit are counted once, as the first");
    x.says(1, 8, 3);
    x.two(0, 0, 8, 61);
    x.winter(8, -1, 21, 2);
    x.lives(-1, 2);
    Due.is("count(11)", x.count(11), 11);
    Due.is("count(12)", x.count(12), 7);
    Due.is("count(14)", x.count(14), 6);
    Due.is("count(16)", x.count(16), 4);
  }
}
