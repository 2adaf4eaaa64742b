import java.io.File;
import java.io.IOException;
import java.nio.file.Files;
import java.nio.file.Path;
import java.util.ArrayList;
import java.util.Arrays;
import java.util.HashMap;
import java.util.LinkedHashMap;
import java.util.LinkedHashSet;
import java.util.List;
import java.util.Map;
import java.util.Set;
import java.util.TreeSet;
import java.util.regex.MatchResult;
import java.util.regex.Matcher;
import java.util.regex.Pattern;
import javax.tools.ToolProvider;

/** What README.md says is so: its example's answers, the calls with their refusals, and the tests that it names. */
public final class ReadmeTest {
  private static final Map<String, Integer> REFUSALS = new LinkedHashMap<>();
  private static String readme;

  public static void main(String[] args) throws Exception {
    readme = Files.readString(Path.of("README.md"));
    exampleAnswersSo();
    refusalsAreAnsweredSo();
    callsAreThoseOfTheClass();
    refusalsAreThoseOfTheDocument();
    itemsOfRulesAreSo();
    testsAreThoseInTheFolder();
    commandsAreThere();
    Due.close();
  }

  private static List<MatchResult> all(String pattern, String text) {
    return Pattern.compile(pattern, Pattern.MULTILINE | Pattern.DOTALL).matcher(text).results().toList();
  }

  private static String only(String pattern, String text) {
    List<MatchResult> found = all(pattern, text);
    Due.is("places with " + pattern, found.size(), 1);
    return found.isEmpty() ? "" : found.get(0).group(1);
  }

  /** The example, with each answer that stands behind a call held against the call's own. */
  private static void exampleAnswersSo() throws Exception {
    Due.says("README: the example");
    StringBuilder body = new StringBuilder();
    int answers = 0;
    for (String line : only("^```java\n(.*?)^```$", readme).split("\n")) {
      Matcher m = Pattern.compile("(?:int (\\w+) = )?(x\\..*);\\s*// ([^:]+): .*").matcher(line);
      if (!m.matches()) {
        body.append(line).append('\n');
        continue;
      }
      String call = m.group(2);
      String name = m.group(1) == null ? "answer" + answers : m.group(1);
      body.append("long got").append(answers).append(" = ").append(call).append(";\n");
      body.append("int ").append(name).append(" = (int) got").append(answers).append(";\n");
      body.append("Due.is(\"").append(call).append("\", got").append(answers).append(", ").append(m.group(3)).append(");\n");
      answers++;
    }
    Due.is("the example's answers are found", answers, 26);
    run("public final class Example { public static void run() {\n" + body + "}}\n");
  }

  /** Compiles a class Example beside this one, and runs it. */
  private static void run(String source) throws Exception {
    File classes = new File(ReadmeTest.class.getProtectionDomain().getCodeSource().getLocation().toURI());
    Path file = Files.createTempDirectory("readme").resolve("Example.java");
    Files.writeString(file, source);
    String folder = classes.getPath();
    int failed = ToolProvider.getSystemJavaCompiler().run(null, null, null, "-cp", folder, "-d", folder, file.toString());
    Files.delete(file);
    Files.delete(file.getParent());
    Due.is("the example does not compile", failed, 0);
    if (failed == 0) Class.forName("Example").getMethod("run").invoke(null);
  }

  private static void refusalsAreAnsweredSo() {
    Due.says("README: refusals, and what is answered");
    for (MatchResult row : all("^\\| ([A-Z]+) \\| (-\\d+) \\|", readme)) REFUSALS.put(row.group(1), Integer.parseInt(row.group(2)));
    Due.same("their order", String.join(" ", REFUSALS.keySet()), "BAD NOT FULL NULL INDEX CAST STORE SIZE");
    MostSold x = new MostSold();
    is("BAD", x.title(52));
    is("NULL", x.lose(0));
    for (int i = 0; i < 12; i++) x.title(0);
    is("FULL", x.title(0));
    is("NOT", x.firm(0));
    is("SIZE", x.sheet(0, 0, -1));
    x.sheet(0, 0, 3);
    x.sheet(1, 1, 3);
    is("INDEX", x.put(0, 0, 3, 0));
    is("CAST", x.put(0, 1, 0, 0));
    is("STORE", x.copy(0, 0, 1, 0, 0));
    Due.is("about", x.about(0, 0), -1000);
    Due.is("a long", x.moves(0), Long.MIN_VALUE + 2);
    Due.is("least", x.sum(12, 0, 0, 0), Long.MIN_VALUE);
    Due.is("NONE", x.fault() == 0 && MostSold.NONE == -1 ? 1 : 0, 1);
    Due.is("the constants", MostSold.BAD == REFUSALS.get("BAD") && MostSold.NOT == REFUSALS.get("NOT")
        && MostSold.FULL == REFUSALS.get("FULL") ? 1 : 0, 1);
  }

  private static void is(String refusal, long got) {
    Due.is(refusal, got, REFUSALS.getOrDefault(refusal, 0));
  }

  private static Map<String, String> callsOfReadme() {
    Map<String, String> refusals = new LinkedHashMap<>();
    for (MatchResult row : all("^\\| `(\\w+\\([\\w, ]*\\))` \\|[^|\n]*\\| ([^|\n]*)\\|$", readme)) refusals.put(row.group(1), row.group(2).trim());
    return refusals;
  }

  private static void callsAreThoseOfTheClass() throws IOException {
    Due.says("README: the calls are the class's, in their order");
    List<String> due = new ArrayList<>();
    String source = Files.readString(Path.of("src/main/java/MostSold.java"));
    for (MatchResult face : all("^    public (?:int|long) (\\w+)\\(([^)]*)\\)", source)) {
      due.add(face.group(1) + "(" + face.group(2).replaceAll("(int|long) ", "") + ")");
    }
    Due.is("calls of the class", due.size(), 39);
    Due.same("the calls", String.join(" ", callsOfReadme().keySet()), String.join(" ", due));
  }

  private static String words(String pattern, String text) {
    Set<String> words = new LinkedHashSet<>();
    for (MatchResult word : all(pattern, text)) words.add(word.group());
    return String.join(" ", words);
  }

  /** Each promise's section names the refusals of its call, in their order. */
  private static void refusalsAreThoseOfTheDocument() throws IOException {
    Due.says("README: the refusals of each call are the document's");
    String document = Files.readString(Path.of("../shared/DOC.md"));
    Map<String, String> promises = new HashMap<>();
    for (MatchResult promise : all("^## Promise \\d+: (\\w+)\n\n(`.*?)\n\n", document)) promises.put(promise.group(1), promise.group(2));
    Due.is("promises of calls", promises.size(), 39);
    callsOfReadme().forEach((call, refusals) -> {
      String promise = promises.getOrDefault(call.substring(0, call.indexOf('(')), "");
      Due.same(call, words("\\b[A-Z]+\\b", refusals), words("\\b(BAD|NOT|FULL|NULL|CAST|STORE|INDEX|SIZE)\\b", promise));
      Due.is(call + " least", refusals.contains("least") ? 1 : 0, promise.contains("BAD: the least long") ? 1 : 0);
    });
  }

  private static void itemsOfRulesAreSo() {
    Due.says("README: the items of rules");
    String row = "^\\| (\\d+)(?: to (\\d+))? \\| `(\\w+)`(?: to `(\\w+)`)? \\|[^|\n]*\\| (\\d+) to (\\d+) \\| (\\d+) \\|$";
    List<MatchResult> rows = all(row, readme);
    Due.is("rows of items", rows.size(), 9);
    for (MatchResult r : rows) {
      for (int ends = 0; ends < 2; ends++) {
        String item = r.group(1 + ends);
        if (item != null) itemIsSo(Integer.parseInt(item), r.group(3 + ends), Integer.parseInt(r.group(5)), Integer.parseInt(r.group(6)), Integer.parseInt(r.group(7)));
      }
    }
  }

  private static void itemIsSo(int item, String part, int least, int most, int otherwise) {
    Due.is("otherwise " + part, new MostSold().rule(item, 0), otherwise);
    for (int number : new int[] {least, most, least - 1, most + 1}) {
      boolean mayBe = number >= least && number <= most;
      MostSold x = new MostSold();
      Due.typeAll(x, part + "=" + number);
      Due.is("whether " + part + " may be " + number, x.fault() == MostSold.NONE ? 1 : 0, mayBe ? 1 : 0);
      Due.is(part + " of " + number, x.rule(item, 0), mayBe ? number : otherwise);
    }
  }

  private static void testsAreThoseInTheFolder() {
    Due.says("README: the tests are those of src/test/java");
    TreeSet<String> named = new TreeSet<>();
    for (MatchResult row : all("^\\| `(\\w+Test)` \\|", readme)) named.add(row.group(1) + ".java");
    String[] there = new File("src/test/java").list();
    Due.same("tests", "" + named, "" + new TreeSet<>(Arrays.asList(there == null ? new String[0] : there)));
  }

  private static void commandsAreThere() {
    Due.says("README: what its commands name is there");
    Due.same("the command", only("^```\n(bash [^\n]*)\n```$", readme), "bash .ci/run");
    Due.is(".ci/run", new File(".ci/run").canExecute() ? 1 : 0, 1);
    for (String file : only("^javac -d /tmp/out (.*?)$", readme).split(" ")) {
      Due.is(file, new File(file.replace("*.java", "")).exists() ? 1 : 0, 1);
    }
  }
}
