import java.lang.reflect.Constructor;
import java.lang.reflect.Field;
import java.lang.reflect.Method;
import java.lang.reflect.Modifier;
import java.nio.file.Files;
import java.nio.file.Path;
import java.util.List;
import java.util.Set;
import java.util.TreeSet;
import java.util.regex.Matcher;
import java.util.regex.Pattern;

/** What LANGUAGE.md asks of the source, as far as it is seen from outside, and the document's face. */
public final class RulesTest {
  private static final Path SOURCE = Path.of("src/main/java/DeniedOfEachOther.java");
  private static final String[] FACE = {
    "int letter(int)", "int town()", "int citizen(int,int)", "int word(int,int)", "int written()",
    "int says(int,int,int)", "int ages(int,int)", "int dies(int)", "int turn(int,int,int)", "int years(int)",
    "int writtenThen(int)", "int wordThen(int,int,int)", "int deadThen(int)", "int lasts(int)", "int lost(int)",
    "int still(int)", "int chapter(int)", "int quarrel(int)", "int keeps()", "int silent(int)",
    "int lives(int,int)", "int heir(int)", "int so(int)", "int leastLiars()", "int differ(int)",
    "int friends(int)", "int gives()", "int two(int,int,int,int)", "long winter(int,int,int,int)", "long mean(int)",
    "int whatIs(int,int,int)", "int row(int)", "int judge()", "int clear()", "int lots(int,int,int)",
    "int image()", "int on()", "int count(int)"
  };
  private static int wrong = 0;

  public static void main(String[] args) throws Exception {
    face();
    inside();
    source();
    System.out.println(wrong == 0 ? "the rules are kept" : wrong + " rules are broken");
    if (wrong != 0) System.exit(1);
  }

  private static void must(boolean holds, String what) {
    if (holds) return;
    wrong++;
    System.out.println(what);
  }

  private static String told(Method m) {
    StringBuilder b = new StringBuilder(m.getReturnType().getName() + " " + m.getName() + "(");
    for (int i = 0; i < m.getParameterCount(); i++) b.append(i == 0 ? "" : ",").append(m.getParameterTypes()[i].getName());
    return b.append(")").toString();
  }

  private static void face() {
    Class<?> c = DeniedOfEachOther.class;
    must(Modifier.isPublic(c.getModifiers()) && Modifier.isFinal(c.getModifiers()), "the class is public and final");
    Set<String> open = new TreeSet<>();
    Set<String> publicNames = new TreeSet<>();
    for (Method m : c.getDeclaredMethods()) {
      if (Modifier.isPrivate(m.getModifiers())) continue;
      must(Modifier.isPublic(m.getModifiers()) && !Modifier.isStatic(m.getModifiers()), m + " is public");
      open.add(told(m));
      publicNames.add(m.getName());
    }
    must(open.equals(new TreeSet<>(List.of(FACE))), "the face is " + open);
    for (Method m : c.getDeclaredMethods()) {
      must(Modifier.isPublic(m.getModifiers()) || !publicNames.contains(m.getName()), m + " bears a public name");
    }
    for (Class<?> i : c.getDeclaredClasses()) {
      for (Method m : i.getDeclaredMethods()) must(!publicNames.contains(m.getName()), m + " bears a public name");
    }
    Constructor<?>[] constructors = c.getDeclaredConstructors();
    must(constructors.length == 1 && Modifier.isPublic(constructors[0].getModifiers())
        && constructors[0].getParameterCount() == 0, "one public constructor");
    for (Field f : c.getDeclaredFields()) must(Modifier.isPrivate(f.getModifiers()), f + " is private");
  }

  private static void inside() {
    Class<?>[] classes = DeniedOfEachOther.class.getDeclaredClasses();
    must(classes.length <= 11, "at most some twelve classes");
    for (Class<?> i : classes) {
      must(Modifier.isStatic(i.getModifiers()), i + " is static");
      must(!Modifier.isPublic(i.getModifiers()) && !Modifier.isProtected(i.getModifiers()), i + " is not open");
      fields(i);
    }
    fields(DeniedOfEachOther.class);
  }

  private static void fields(Class<?> c) {
    int own = 0;
    for (Field f : c.getDeclaredFields()) {
      if (!Modifier.isStatic(f.getModifiers())) own++;
      else must(Modifier.isFinal(f.getModifiers()), f + " is final");
    }
    must(own <= 20, c + " has at most some twenty fields");
  }

  private static void source() throws Exception {
    String text = Files.readString(SOURCE);
    for (int i = 0; i < text.length(); i++) must(text.charAt(i) < 128, "sign " + i + " is below 128");
    String code = text.replaceAll("(?s)/\\*.*?\\*/", "").replaceAll("//[^\\n]*", "");
    for (String word : "throw throws try catch finally synchronized assert import package double float var Exact".split(" ")) {
      must(!Pattern.compile("\\b\\w*" + (word.equals("Exact") ? "" : "\\b") + word + "\\b").matcher(code).find(), "no " + word);
    }
    must(!code.contains("->") && !code.contains("::"), "no lambda, no reference to a method");
    must(!Pattern.compile("\"\\s*\\+|\\+\\s*\"").matcher(code).find(), "no text is joined by +");
    library(code);
    newObjects(code);
    methods(code);
  }

  /** Of the classes of the library only these functions, which LANGUAGE.md lists; no constants. */
  private static void library(String code) {
    Set<String> listed = Set.of("Integer.bitCount(", "Integer.numberOfTrailingZeros(", "Math.min(", "Math.max(", "System.arraycopy(");
    Matcher uses = Pattern.compile("\\b(Integer|Long|Math|System|Arrays|Character|Object|List|ArrayList|Thread)\\b\\.?\\w*\\(?").matcher(code);
    while (uses.find()) must(listed.contains(uses.group()), "not of the library that is listed: " + uses.group());
  }

  /** Rows are made in constructors alone, so that no call makes an object. */
  private static void newObjects(String code) {
    Matcher news = Pattern.compile("\\n([^\\n]*)\\bnew\\b([^\\n]*)").matcher(code);
    int found = 0;
    while (news.find()) {
      found++;
      must(news.group(1).matches("\\s+\\w+ = "), "not in a constructor: " + news.group());
    }
    must(found > 0, "objects are made");
  }

  private static void methods(String code) {
    Matcher heads = Pattern.compile("\\n( +)(?:public|private)[^=;{\\n]*\\(([^)]*)\\) \\{(.*?)\\n\\1\\}", Pattern.DOTALL).matcher(code);
    int found = 0;
    while (heads.find()) {
      found++;
      must(heads.group(2).split(",").length <= 7, "at most seven parameters: " + heads.group(2));
      must(heads.group(3).split("\n").length <= 60, "at most sixty lines: " + heads.group());
    }
    must(found >= FACE.length, "methods are found");
  }
}
