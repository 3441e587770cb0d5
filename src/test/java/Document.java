import java.nio.charset.StandardCharsets;
import java.nio.file.Files;
import java.nio.file.Path;
import java.util.ArrayList;
import java.util.Arrays;
import java.util.LinkedHashMap;
import java.util.List;
import java.util.Map;

/** The promises and terms of DOC.md as texts, and which of their letters a test has quoted. */
final class Document {
  static final String TERMS = "Terms";
  private final Map<String, StringBuilder> parts = new LinkedHashMap<>();
  private final Map<String, boolean[]> quoted = new LinkedHashMap<>();

  Document(String path) throws Exception {
    String part = "";
    for (String line : Files.readAllLines(Path.of(path), StandardCharsets.UTF_8)) {
      if (line.startsWith("## ")) part = partOf(line.substring(3));
      else if (!part.isEmpty() && isPromised(line)) add(part, line);
    }
    parts.forEach((name, text) -> quoted.put(name, new boolean[text.length()]));
  }

  /** What the table is stands before the terms and belongs to them; the face is LanguageTest's. */
  private static String partOf(String heading) {
    if (heading.startsWith("Promise ")) return heading.substring(0, heading.indexOf(':'));
    return heading.equals("What it is") || heading.equals(TERMS) ? TERMS : "";
  }

  private static boolean isPromised(String line) {
    return !line.startsWith("```") && !line.startsWith("Ahead of the calls");
  }

  private void add(String part, String line) {
    String text = line.replaceAll("^`[^`]*`: ", "").replaceAll("^(Columns cut .*)?======== [0-9] ", "").strip();
    if (text.isEmpty()) return;
    StringBuilder all = parts.computeIfAbsent(part, name -> new StringBuilder());
    all.append(all.length() == 0 ? "" : " ").append(text);
  }

  int promises() {
    return (int) parts.keySet().stream().filter(name -> name.startsWith("Promise ")).count();
  }

  /** Whether the sentence stands in that part; its letters are quoted then. */
  boolean quote(String part, String sentence) {
    if (!parts.containsKey(part)) return false;
    int at = parts.get(part).indexOf(sentence);
    boolean stands = at >= 0;
    for (; at >= 0; at = parts.get(part).indexOf(sentence, at + 1)) {
      Arrays.fill(quoted.get(part), at, at + sentence.length(), true);
    }
    return stands;
  }

  /** What no test has quoted yet, but for points and blanks. */
  List<String> unquoted() {
    List<String> left = new ArrayList<>();
    parts.forEach((name, text) -> {
      StringBuilder open = new StringBuilder(text);
      for (int i = 0; i < open.length(); i++) if (quoted.get(name)[i]) open.setCharAt(i, '\n');
      for (String some : open.toString().split("\n+")) if (some.matches(".*[A-Za-z0-9].*")) left.add(name + ": " + some.strip());
    });
    return left;
  }
}
