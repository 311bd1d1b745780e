import java.io.IOException;
import java.nio.charset.StandardCharsets;
import java.nio.file.Files;
import java.nio.file.Path;
import java.util.ArrayList;
import java.util.Comparator;
import java.util.List;
import java.util.regex.Matcher;
import java.util.regex.Pattern;
import java.util.stream.Stream;

/** The README's example, compiled and run by the README's commands, prints the answers that stand behind its calls. */
public final class ReadmeTest {
  private static final Path CLASS = Path.of("src/main/java/SpeaksInTurn.java");
  private static final Pattern TOLD = Pattern.compile("System\\.out\\.println\\((.*)\\); +// (-?\\d+).*");

  public static void main(String[] args) throws Exception {
    String page = Files.readString(Path.of("README.md"));
    String example = block(page, "java");
    List<String> calls = new ArrayList<>();
    List<String> due = new ArrayList<>();
    for (String line : example.split("\n")) {
      Matcher told = TOLD.matcher(line.strip());
      if (told.matches()) {
        calls.add(told.group(1));
        due.add(told.group(2));
      }
    }
    List<String> got = run(example, block(page, "sh"));
    Due.is("lines of the example", got.size(), due.size());
    for (int i = 0; i < due.size() && i < got.size(); i++) {
      Due.is(calls.get(i), Long.parseLong(got.get(i)), Long.parseLong(due.get(i)));
    }
    Due.holds("each test stands in the README", eachTestStandsIn(page));
    Due.end();
  }

  /** The first block of code in this language. */
  private static String block(String page, String language) {
    Matcher found = Pattern.compile("(?s)```" + language + "\n(.*?)```").matcher(page);
    Due.holds("a block of " + language, found.find());
    return found.group(1);
  }

  /** Runs the commands in a folder of its own that holds the class and the example. */
  private static List<String> run(String example, String commands) throws IOException, InterruptedException {
    Path folder = Files.createTempDirectory("readme");
    try {
      Path source = folder.resolve(CLASS);
      Files.createDirectories(source.getParent());
      Files.copy(CLASS, source);
      Files.writeString(folder.resolve("Example.java"), example);
      Process shell = new ProcessBuilder("sh", "-e", "-c", commands)
          .directory(folder.toFile()).redirectErrorStream(true).start();
      String printed = new String(shell.getInputStream().readAllBytes(), StandardCharsets.UTF_8);
      boolean ran = shell.waitFor() == 0;
      Due.holds("the README's commands run: " + (ran ? "" : printed), ran);
      return ran ? printed.lines().toList() : List.of();
    } finally {
      remove(folder);
    }
  }

  private static void remove(Path folder) throws IOException {
    try (Stream<Path> all = Files.walk(folder)) {
      for (Path one : all.sorted(Comparator.reverseOrder()).toList()) {
        Files.delete(one);
      }
    }
  }

  private static boolean eachTestStandsIn(String page) throws IOException {
    try (Stream<Path> files = Files.list(Path.of("src/test/java"))) {
      return files.map(f -> f.getFileName().toString().replace(".java", ""))
          .filter(name -> name.endsWith("Test") || name.endsWith("Edges")).allMatch(page::contains);
    }
  }
}
