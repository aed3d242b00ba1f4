import java.lang.reflect.Constructor;
import java.lang.reflect.Field;
import java.lang.reflect.Method;
import java.lang.reflect.Modifier;
import java.util.Arrays;
import java.util.List;
import java.util.Set;
import java.util.TreeSet;
import java.util.stream.Collectors;

/** The class shows the document's face and nothing else. */
public final class FaceTest {
  private static final List<String> FACE =
      List.of(
          "int put(int, long, long, int) throws IllegalArgumentException",
          "int drop(int) throws NoSuchElementException",
          "long slide(long) throws NoSuchElementException, IllegalArgumentException",
          "long told(int, int) throws NoSuchElementException, IllegalArgumentException",
          "int at(int) throws NoSuchElementException",
          "int rank(int) throws NoSuchElementException",
          "int earliest(long) throws NoSuchElementException",
          "int between(long, long) throws NoSuchElementException",
          "int pick() throws NoSuchElementException",
          "long ahead(int) throws NoSuchElementException",
          "int weight(long)",
          "int half() throws NoSuchElementException",
          "long nearest() throws NoSuchElementException",
          "int cut(long, long)",
          "int count(int)");

  public static void main(String[] args) {
    Checks checks = new Checks();
    checks.same("the class", "public final", Modifier.toString(FairTree.class.getModifiers()));
    checks.same("the constructors", "[public ()]", constructors().toString());
    checks.same("the methods", new TreeSet<>(FACE).toString(), methods().toString());
    checks.same("the fields that are not private", "[]", openFields().toString());
    checks.same("the static fields that are not final", "[]", staticState().toString());
    checks.same("private methods with a public one's name", "[]", doubleNames().toString());
    checks.end();
  }

  private static Set<String> constructors() {
    Set<String> found = new TreeSet<>();
    for (Constructor<?> made : FairTree.class.getDeclaredConstructors()) {
      found.add(Modifier.toString(made.getModifiers()) + " " + types(made.getParameterTypes()));
    }
    return found;
  }

  private static Set<String> methods() {
    Set<String> found = new TreeSet<>();
    for (Method method : FairTree.class.getDeclaredMethods()) {
      if (!Modifier.isPrivate(method.getModifiers())) {
        found.add(described(method));
      }
    }
    return found;
  }

  private static String described(Method method) {
    String modifiers = Modifier.toString(method.getModifiers());
    String thrown =
        Arrays.stream(method.getExceptionTypes())
            .map(Class::getSimpleName)
            .collect(Collectors.joining(", "));
    return (modifiers.equals("public") ? "" : modifiers + " ")
        + method.getReturnType().getSimpleName() + " " + method.getName()
        + types(method.getParameterTypes())
        + (thrown.isEmpty() ? "" : " throws " + thrown);
  }

  private static String types(Class<?>[] types) {
    return Arrays.stream(types)
        .map(Class::getSimpleName)
        .collect(Collectors.joining(", ", "(", ")"));
  }

  private static Set<String> openFields() {
    Set<String> found = new TreeSet<>();
    for (Field field : FairTree.class.getDeclaredFields()) {
      if (!Modifier.isPrivate(field.getModifiers())) {
        found.add(field.getName());
      }
    }
    return found;
  }

  private static Set<String> staticState() {
    Set<String> found = new TreeSet<>();
    for (Field field : FairTree.class.getDeclaredFields()) {
      if (Modifier.isStatic(field.getModifiers()) && !Modifier.isFinal(field.getModifiers())) {
        found.add(field.getName());
      }
    }
    return found;
  }

  private static Set<String> doubleNames() {
    Set<String> open = new TreeSet<>();
    Set<String> hidden = new TreeSet<>();
    for (Method method : FairTree.class.getDeclaredMethods()) {
      (Modifier.isPrivate(method.getModifiers()) ? hidden : open).add(method.getName());
    }
    hidden.retainAll(open);
    return hidden;
  }
}
