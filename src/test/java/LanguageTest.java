import java.io.IOException;
import java.nio.file.Files;
import java.nio.file.Path;
import java.util.List;
import java.util.Set;
import java.util.TreeSet;
import java.util.regex.Matcher;
import java.util.regex.Pattern;

/** The rules of LANGUAGE.md that can be read off the program's text; FaceTest has rule 1. */
public final class LanguageTest {
  private static final Path PROGRAM = Path.of("src/main/java/FairTree.java");
  private static final int METHOD_LINES = 60;

  /** Of what rule 4 lists, what this program needs. */
  private static final Set<String> LIBRARY = Set.of("System.arraycopy", "Math.min");
  private static final Set<String> IMPORTS = Set.of("java.util.NoSuchElementException");
  private static final Set<String> EXCEPTIONS =
      Set.of("NoSuchElementException", "IllegalArgumentException");
  /** The constructor's rows: whatever else is made would be made anew by each call. */
  private static final List<String> ROWS =
      List.of("long[NUMBERS]", "long[NUMBERS]", "int[NUMBERS]", "int[NUMBERS]");

  private final Checks checks = new Checks();
  private final String text;

  private LanguageTest(String text) {
    this.text = text;
  }

  public static void main(String[] args) throws IOException {
    LanguageTest test = new LanguageTest(withoutComments(Files.readString(PROGRAM)));
    test.onlyTheLibraryThatIsListed();
    test.onlyTheWordsThatAreLeft();
    test.onlyTheExceptionsOfTheDocument();
    test.onlyTheConstructorMakesRows();
    test.methodsStayShort();
    test.checks.end();
  }

  private static String withoutComments(String program) {
    return program.replaceAll("(?s)/\\*.*?\\*/", "").replaceAll("//[^\n]*", "");
  }

  private void onlyTheLibraryThatIsListed() {
    dueNoOther("rule 4: imports", IMPORTS, found("\\bimport\\s+(?:static\\s+)?([\\w.*]+)"));
    dueNoOther("rule 4: library", LIBRARY, found("\\b([A-Z][a-z]\\w*\\.\\w+)"));
    dueNoOther("rule 4: library by its full name", Set.of(), found("\\b(java\\.lang[\\w.]*)"));
  }

  private void onlyTheWordsThatAreLeft() {
    dueNoOther("rule 1: package line", Set.of(), found("\\b(package\\s[^;]*)"));
    dueNoOther("rule 6: words", Set.of(), found("\\b(synchronized|assert|finally)\\b"));
    dueNoOther("rule 2: lambdas and method references", Set.of(), found("(->|::)"));
    dueNoOther("rule 5: static blocks", Set.of(), found("\\b(static\\s*\\{)"));
  }

  private void onlyTheExceptionsOfTheDocument() {
    dueNoOther("rule 6: thrown", EXCEPTIONS, found("\\bthrow\\s+new\\s+(\\w+)\\(\\)"));
    checks.due("rule 6: throw statements of another form", 0,
        () -> count("\\bthrow\\b") - count("\\bthrow\\s+new\\s+\\w+\\(\\);"));
  }

  private void onlyTheConstructorMakesRows() {
    String rest = text.replaceAll("\\bthrow\\s+new\\b", "");
    Matcher made = Pattern.compile("\\bnew\\s+([^;(]+)").matcher(rest);
    List<String> rows = made.results().map(row -> row.group(1)).toList();
    checks.same("rule 12: what is made", ROWS.toString(), rows.toString());
  }

  /** A method's lines stand between two lines that are indented as a member is. */
  private void methodsStayShort() {
    int lines = 0;
    int most = 0;
    for (String line : text.split("\n")) {
      lines = line.matches("  \\S.*") ? 0 : lines + 1;
      most = Math.max(most, lines);
    }
    int longest = most;
    checks.due("rule 11: a method has too many lines", 0, () -> longest > METHOD_LINES ? longest : 0);
  }

  private void dueNoOther(String rule, Set<String> listed, Set<String> found) {
    Set<String> others = new TreeSet<>(found);
    others.removeAll(listed);
    checks.same(rule + " beside what is listed", "[]", others.toString());
  }

  private Set<String> found(String pattern) {
    Set<String> found = new TreeSet<>();
    Pattern.compile(pattern).matcher(text).results().forEach(place -> found.add(place.group(1)));
    return found;
  }

  private long count(String pattern) {
    return Pattern.compile(pattern).matcher(text).results().count();
  }
}
