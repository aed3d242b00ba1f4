import java.io.IOException;
import java.nio.file.Files;
import java.nio.file.Path;
import java.util.ArrayList;
import java.util.LinkedHashMap;
import java.util.List;
import java.util.Map;
import java.util.regex.Matcher;
import java.util.regex.Pattern;

/** The example in README.md shows every call of the face, with the answer that FairTree gives. */
public final class ReadmeTest {
  private static final Pattern SHOWN = Pattern.compile("tree\\.(\\w+\\([^)]*\\)); +// (-?\\d+)\\b.*");

  public static void main(String[] args) throws IOException {
    List<String> answered = new ArrayList<>();
    for (Map.Entry<String, Checks.Call> call : calls(new FairTree()).entrySet()) {
      answered.add(call.getKey() + " " + Checks.outcome(call.getValue()));
    }
    Checks checks = new Checks();
    checks.same("the example in README.md", answered.toString(), shown().toString());
    checks.end();
  }

  /** In the order of the example, as later answers depend on earlier calls. */
  private static Map<String, Checks.Call> calls(FairTree tree) {
    Map<String, Checks.Call> calls = new LinkedHashMap<>();
    calls.put("put(7, 10, 6, 4)", () -> tree.put(7, 10, 6, 4));
    calls.put("put(5, 20, 1, 2)", () -> tree.put(5, 20, 1, 2));
    calls.put("at(0)", () -> tree.at(0));
    calls.put("rank(5)", () -> tree.rank(5));
    calls.put("told(5, 1)", () -> tree.told(5, 1));
    calls.put("earliest(20)", () -> tree.earliest(20));
    calls.put("between(5, 15)", () -> tree.between(5, 15));
    calls.put("pick()", () -> tree.pick());
    calls.put("ahead(5)", () -> tree.ahead(5));
    calls.put("weight(15)", () -> tree.weight(15));
    calls.put("half()", () -> tree.half());
    calls.put("nearest()", () -> tree.nearest());
    calls.put("count(1)", () -> tree.count(1));
    calls.put("slide(100)", () -> tree.slide(100));
    calls.put("cut(0, 110)", () -> tree.cut(0, 110));
    calls.put("drop(5)", () -> tree.drop(5));
    return calls;
  }

  private static List<String> shown() throws IOException {
    List<String> shown = new ArrayList<>();
    for (String line : Files.readAllLines(Path.of("README.md"))) {
      Matcher call = SHOWN.matcher(line);
      if (call.matches()) {
        shown.add(call.group(1) + " " + call.group(2));
      }
    }
    return shown;
  }
}
