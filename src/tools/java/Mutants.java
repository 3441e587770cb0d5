import java.io.ByteArrayOutputStream;
import java.io.File;
import java.nio.file.Files;
import java.nio.file.Path;
import java.util.ArrayList;
import java.util.Comparator;
import java.util.LinkedHashSet;
import java.util.List;
import java.util.Set;
import java.util.concurrent.ExecutorService;
import java.util.concurrent.Executors;
import java.util.concurrent.Future;
import java.util.concurrent.TimeUnit;
import java.util.regex.Matcher;
import java.util.regex.Pattern;
import java.util.stream.Stream;
import javax.tools.ToolProvider;

/**
 * Spoils the class in one place after the other and tells which spoilt ones a test does not see.
 * Arguments: the directory of the compiled tests, and the tests' names. It is run by hand: it takes minutes.
 */
public final class Mutants {
  private static final Path CLASS = Path.of("src/main/java/SlicedRows.java");
  private static final int SECONDS = 30;
  private static final String[][] SWAPS = {
    {"(?<=[^<>=-]) < (?=[^<=])", " <= "}, {" <= ", " < "}, {"(?<=[^<>=-]) > (?=[^>=])", " >= "}, {" >= ", " > "},
    {" == ", " != "}, {" != ", " == "}, {" && ", " || "}, {" \\|\\| ", " && "},
    {" \\+ ", " - "}, {" - ", " + "}, {" \\* ", " + "}, {" % ", " / "}, {" / ", " % "},
    {"(?<=[( ])!(?=[a-zA-Z(])", ""}, {"\\btrue\\b", "false"}, {"\\bfalse\\b", "true"},
    {" & ", " | "}, {" \\| ", " & "}, {" \\|= ", " &= "}, {" &= ", " |= "}, {"~", ""},
    {" << ", " >> "}, {" >>> ", " << "}, {" >> ", " << "},
    {"\\+\\+;", "--;"}, {"--;", "++;"}, {" \\+= ", " -= "}, {" -= ", " += "},
    {"return UNKNOWN", "return OUTSIDE"}, {"return OUTSIDE", "return STATE"}, {"return STATE", "return FULL"},
    {"return FULL", "return STATE"}, {"return NONE", "return UNKNOWN"}, {"return ([a-z][^;]*);", "return 0;"},
    {"Math.min", "Math.max"}, {"Math.max", "Math.min"}, {"continue;", "break;"}};
  private static final Pattern NUMBER = Pattern.compile("(?<![A-Za-z_0-9.x])([0-9]{1,10})(L?)(?![A-Za-z_0-9x])");
  /** Calls, steps and settings that can be left out, and refusals. */
  private static final Pattern STATEMENT = Pattern.compile(
      "(?!return|int |long |boolean |private )[a-zA-Z][a-zA-Z.\\[\\]0-9 ]*(\\(.*\\)|[+-]{2}| [|&+-]?= .*);|if \\(.*\\) return .*;");

  record Mutant(int line, String was, String is) { }

  public static void main(String[] args) throws Exception {
    List<String> lines = Files.readAllLines(CLASS);
    List<Mutant> all = mutants(lines);
    ExecutorService pool = Executors.newFixedThreadPool(Runtime.getRuntime().availableProcessors());
    List<Future<Boolean>> seen = new ArrayList<>();
    for (Mutant mutant : all) seen.add(pool.submit(() -> isSeen(lines, mutant, args)));
    int unseen = 0;
    for (int i = 0; i < all.size(); i++) {
      if (seen.get(i).get()) continue;
      unseen++;
      Mutant mutant = all.get(i);
      System.out.println("line " + mutant.line() + ": " + mutant.was().strip() + "\n    unseen as: " + mutant.is().strip());
    }
    pool.shutdown();
    System.out.println(all.size() + " mutants, " + unseen + " unseen");
  }

  private static List<Mutant> mutants(List<String> lines) {
    List<Mutant> all = new ArrayList<>();
    boolean comment = false;
    for (int i = 0; i < lines.size(); i++) {
      String line = lines.get(i);
      comment |= line.strip().startsWith("/*");
      if (!comment && !line.strip().startsWith("//")) for (String is : spoilt(line)) all.add(new Mutant(i + 1, line, is));
      comment &= !line.contains("*/");
    }
    return all;
  }

  private static Set<String> spoilt(String line) {
    Set<String> made = new LinkedHashSet<>();
    for (String[] swap : SWAPS) {
      Matcher found = Pattern.compile(swap[0]).matcher(line);
      while (found.find()) made.add(line.substring(0, found.start()) + swap[1] + line.substring(found.end()));
    }
    Matcher number = NUMBER.matcher(line);
    while (number.find()) {
      long v = Long.parseLong(number.group(1));
      for (long other : new long[] {v + 1, v - 1}) {
        made.add(line.substring(0, number.start()) + other + number.group(2) + line.substring(number.end()));
      }
    }
    if (STATEMENT.matcher(line.strip()).matches()) made.add("");
    return made;
  }

  /** Seen is also what does not compile, and what does not end. */
  private static boolean isSeen(List<String> lines, Mutant mutant, String[] args) throws Exception {
    Path home = Files.createTempDirectory("mutant");
    try {
      List<String> copy = new ArrayList<>(lines);
      copy.set(mutant.line() - 1, mutant.is());
      Path file = Files.write(home.resolve("SlicedRows.java"), copy);
      ByteArrayOutputStream sink = new ByteArrayOutputStream();
      if (ToolProvider.getSystemJavaCompiler().run(null, sink, sink, "-d", home.toString(), file.toString()) != 0) return true;
      for (int i = 1; i < args.length; i++) if (!passes(home + File.pathSeparator + args[0], args[i])) return true;
      return false;
    } finally {
      try (Stream<Path> made = Files.walk(home)) {
        made.sorted(Comparator.reverseOrder()).forEach(path -> path.toFile().delete());
      }
    }
  }

  private static boolean passes(String classPath, String test) throws Exception {
    Process run = new ProcessBuilder("java", "-XX:TieredStopAtLevel=1", "-XX:+UseSerialGC", "-cp", classPath, test)
        .redirectErrorStream(true).redirectOutput(ProcessBuilder.Redirect.DISCARD).start();
    boolean ended = run.waitFor(SECONDS, TimeUnit.SECONDS);
    if (!ended) run.destroyForcibly();
    return ended && run.exitValue() == 0;
  }
}
