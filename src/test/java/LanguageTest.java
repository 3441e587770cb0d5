import java.lang.reflect.Constructor;
import java.lang.reflect.Field;
import java.lang.reflect.Method;
import java.lang.reflect.Modifier;
import java.nio.charset.StandardCharsets;
import java.nio.file.Files;
import java.nio.file.Path;
import java.util.ArrayList;
import java.util.List;
import java.util.Set;
import java.util.TreeSet;

/** The face of the document, and those rules of LANGUAGE.md that can be seen from outside or from the text. */
public final class LanguageTest {
  private static final Due due = new Due("LanguageTest");
  private static final String[] FACE = {
    "int size(int,int)", "int row(int,int,int,int)", "int fill(int,int)", "int set(int,int,int)", "int drop(int)", "int get(int,int)",
    "int design(int,int,long)", "int about(int,int)", "long vector(int,int)", "long reads(int,int,int)", "int cost(int,int,int)",
    "int best(int,int,int,int,int)", "int letters(long)", "int blank()", "int good()", "int ask()", "long leaves(int)",
    "int asked(int,int)", "int sum(int,int)", "int least(int,int,int)", "int group(int,int,int)", "int tear(int,int)", "int mend(int)",
    "long parity(int)", "int words(int,int,int,boolean)", "int all(int,boolean)", "int placed(int,boolean,int)", "int order(int)",
    "int undo()", "int mark()", "int back(int)", "int count(int)", "long digest()"};
  private static final String[] FORBIDDEN = {"throw", "throws", "try", "catch", "finally", "synchronized", "assert", "import", "package",
    "Object", "Thread", "var", "->", "::", "@", "Exact", "MAX_VALUE", "MIN_VALUE"};

  public static void main(String[] args) throws Exception {
    face();
    classesInside();
    text(args.length > 0 ? args[0] : "src/main/java/SlicedRows.java");
    due.end();
  }

  private static String told(Method method) {
    List<String> types = new ArrayList<>();
    for (Class<?> type : method.getParameterTypes()) types.add(type.getName());
    return method.getReturnType().getName() + " " + method.getName() + "(" + String.join(",", types) + ")";
  }

  private static void face() {
    Class<?> face = SlicedRows.class;
    due.is("the class is public and final", face.getModifiers(), Modifier.PUBLIC | Modifier.FINAL);
    Set<String> want = new TreeSet<>(List.of(FACE));
    Set<String> got = new TreeSet<>();
    Set<String> names = new TreeSet<>();
    for (Method method : face.getDeclaredMethods()) {
      if (Modifier.isPrivate(method.getModifiers())) continue;
      due.is(method.getName() + " is public, nothing else", method.getModifiers(), Modifier.PUBLIC);
      got.add(told(method));
      names.add(method.getName());
    }
    due.holds("the methods are " + want + ", not " + got, got.equals(want));
    for (Class<?> each : everyClass()) {
      for (Method method : each.getDeclaredMethods()) {
        if (each == face && !Modifier.isPrivate(method.getModifiers())) continue;
        due.holds(each.getName() + "." + method.getName() + " bears no public name", !names.contains(method.getName()));
        due.holds(method.getName() + " has seven parameters at most", method.getParameterCount() <= 7);
      }
    }
    for (Constructor<?> made : face.getDeclaredConstructors()) {
      due.is("the constructor takes nothing", made.getParameterCount(), 0);
      due.is("the constructor is public", made.getModifiers(), Modifier.PUBLIC);
    }
    int constants = 0;
    for (Field field : face.getDeclaredFields()) {
      if (Modifier.isPrivate(field.getModifiers())) continue;
      constants++;
      due.is(field.getName(), field.getModifiers(), Modifier.PUBLIC | Modifier.STATIC | Modifier.FINAL);
    }
    due.is("constants", constants, 5);
    due.is("NONE", SlicedRows.NONE, -1);
    due.is("UNKNOWN", SlicedRows.UNKNOWN, -101);
    due.is("OUTSIDE", SlicedRows.OUTSIDE, -102);
    due.is("STATE", SlicedRows.STATE, -103);
    due.is("FULL", SlicedRows.FULL, -104);
  }

  private static List<Class<?>> everyClass() {
    List<Class<?>> all = new ArrayList<>(List.of(SlicedRows.class.getDeclaredClasses()));
    all.add(SlicedRows.class);
    return all;
  }

  private static void classesInside() {
    due.holds("twelve classes at most", everyClass().size() <= 12);
    for (Class<?> inside : SlicedRows.class.getDeclaredClasses()) {
      due.holds(inside.getName() + " is static", Modifier.isStatic(inside.getModifiers()));
      due.holds(inside.getName() + " is not public", !Modifier.isPublic(inside.getModifiers()) && !Modifier.isProtected(inside.getModifiers()));
    }
    for (Class<?> each : everyClass()) {
      int fields = 0;
      for (Field field : each.getDeclaredFields()) {
        if (!Modifier.isStatic(field.getModifiers())) fields++;
        else due.holds(field.getName() + " is final", Modifier.isFinal(field.getModifiers()));
      }
      due.holds(each.getName() + " has twenty fields at most", fields <= 20);
    }
  }

  private static void text(String path) throws Exception {
    String source = Files.readString(Path.of(path), StandardCharsets.UTF_8);
    for (int i = 0; i < source.length(); i++) {
      if (source.charAt(i) > 126) due.holds("sign " + (int) source.charAt(i), false);
    }
    String code = source.replaceAll("(?s)/\\*.*?\\*/", " ").replaceAll("//[^\n]*", " ");
    for (String word : FORBIDDEN) {
      String sought = Character.isLetter(word.charAt(0)) ? "\\b" + word + "\\b" : java.util.regex.Pattern.quote(word);
      due.holds("no " + word, !java.util.regex.Pattern.compile(sought).matcher(code).find());
    }
    int from = 0;
    String[] lines = source.split("\n");
    for (int i = 0; i < lines.length; i++) {
      due.holds("line " + (i + 1) + " is not too long", lines[i].length() <= 120);
      if (lines[i].matches(" {4,8}[a-z].*\\) \\{")) from = i;
      if (lines[i].matches(" {4,8}\\}")) due.holds("the method that ends in line " + (i + 1) + " is short", i - from < 60);
    }
  }
}
