/** Holds answers against those that are due; shared by the tests of the document's edges. */
public final class Due {
  static final int LEAST = Integer.MIN_VALUE;
  static final int GREATEST = Integer.MAX_VALUE;
  private static final int CALLS_OF_AN_OBJECT = 512;

  private static String sentence = "";
  private static int wrong = 0;
  private static int held = 0;

  private Due() {}

  /** The promise and the words of the document that the next answers are held against. */
  static void says(int promise, String words) {
    sentence = "promise " + promise + ", \"" + words + "\"";
  }

  static void is(String call, long got, long want) {
    held++;
    if (got == want) return;
    wrong++;
    System.out.println(sentence + ": " + call + " answered " + got + ", due is " + want);
  }

  /** For an answer that is a fault of the test itself, too. */
  static void must(String what, boolean holds) {
    is(what, holds ? 1 : 0, 1);
  }

  /** The letters alone. */
  static DeniedOfEachOther letters(DeniedOfEachOther x, String text) {
    for (int i = 0; i < text.length(); i++) {
      if (x.letter(text.charAt(i)) <= 0) must("letter " + i + " of \"" + text + "\" is taken", false);
    }
    return x;
  }

  static int tell(DeniedOfEachOther x, String text) {
    return letters(x, text).town();
  }

  /** A new object to which each text is told as a TOWN. */
  static DeniedOfEachOther town(String... texts) {
    DeniedOfEachOther x = new DeniedOfEachOther();
    int calls = 0;
    for (String text : texts) {
      calls += text.length() + 1;
      must("\"" + text + "\" is a TOWN", tell(x, text) > 0);
    }
    must("a town is told in less than " + CALLS_OF_AN_OBJECT + " calls", calls < CALLS_OF_AN_OBJECT);
    return x;
  }

  /** A new object of the YEAR. */
  static DeniedOfEachOther inYear(int year) {
    DeniedOfEachOther x = new DeniedOfEachOther();
    for (int y = year; y > 0; y -= 60) x.years(Math.min(60, y));
    must("the YEAR is " + year, x.count(1) == year);
    return x;
  }

  static DeniedOfEachOther withRow(DeniedOfEachOther x, int... numbers) {
    for (int v : numbers) x.row(v);
    return x;
  }

  /** Prints what was found and ends with exit code 1 if an answer was wrong. */
  static void end() {
    System.out.println(wrong == 0 ? held + " answers are as due" : wrong + " of " + held + " answers are not as due");
    if (wrong != 0) System.exit(1);
  }
}
