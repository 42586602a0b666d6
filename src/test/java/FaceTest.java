import java.lang.reflect.Constructor;
import java.lang.reflect.Field;
import java.lang.reflect.Method;
import java.lang.reflect.Modifier;
import java.util.ArrayList;
import java.util.Collections;
import java.util.List;
import java.util.Set;
import java.util.TreeSet;

/**
 * The public face of the document, with its exceptions in their order, and no other member that can be seen; also, from
 * LANGUAGE.md, that no private method bears the name of a public one and that static fields are final.
 */
public final class FaceTest {
  private static final String FACE =
      """
      boolean blank(int,int) NoSuchElementException
      boolean common(int,int,int,int) NoSuchElementException
      boolean own(int,int) NoSuchElementException ArithmeticException
      int about(int,int) NoSuchElementException IllegalArgumentException
      int count(int)
      int drop(int) NoSuchElementException
      int holders(int,int) NoSuchElementException
      int lay(int,int,int,int,int) NoSuchElementException
      int make(int) IllegalArgumentException IllegalStateException
      int merge()
      int read(int,int,int) NoSuchElementException
      int share(int,int,int) NoSuchElementException IllegalStateException
      int size(int,int) NoSuchElementException IllegalArgumentException
      int sweep()
      int write(int,int,int,int) NoSuchElementException ArithmeticException
      """;

  public static void main(String[] args) {
    Runs runs = new Runs();
    runs.due("methods", methods(), FACE);
    runs.due("fields", seenFields(), "[]");
    runs.due("class", Modifier.toString(CloneTree.class.getModifiers()), "public final");
    Constructor<?>[] constructors = CloneTree.class.getDeclaredConstructors();
    runs.due("constructors", constructors.length + " " + constructors[0], "1 public CloneTree()");
    runs.due("private methods named like public ones", privateNamesakes(), "[]");
    runs.due("static fields that are not final", staticFieldsNotFinal(), "[]");
    runs.end();
  }

  private static String methods() {
    List<String> seen = new ArrayList<>();
    for (Method method : CloneTree.class.getDeclaredMethods()) {
      if (!Modifier.isPrivate(method.getModifiers())) {
        seen.add(describe(method));
      }
    }
    Collections.sort(seen);
    return String.join("\n", seen) + "\n";
  }

  private static String describe(Method method) {
    List<String> parameters = new ArrayList<>();
    for (Class<?> type : method.getParameterTypes()) {
      parameters.add(type.getSimpleName());
    }
    StringBuilder text = new StringBuilder(method.getReturnType().getSimpleName() + " " + method.getName());
    text.append('(').append(String.join(",", parameters)).append(')');
    for (Class<?> type : method.getExceptionTypes()) {
      text.append(' ').append(type.getSimpleName());
    }
    return text.toString();
  }

  private static String privateNamesakes() {
    Set<String> publicNames = new TreeSet<>();
    Set<String> privateNames = new TreeSet<>();
    for (Method method : CloneTree.class.getDeclaredMethods()) {
      boolean isPrivate = Modifier.isPrivate(method.getModifiers());
      (isPrivate ? privateNames : publicNames).add(method.getName());
    }
    privateNames.retainAll(publicNames);
    return privateNames.toString();
  }

  private static String staticFieldsNotFinal() {
    List<String> found = new ArrayList<>();
    for (Field field : CloneTree.class.getDeclaredFields()) {
      if (Modifier.isStatic(field.getModifiers()) && !Modifier.isFinal(field.getModifiers())) {
        found.add(field.getName());
      }
    }
    return found.toString();
  }

  private static String seenFields() {
    List<String> seen = new ArrayList<>();
    for (Field field : CloneTree.class.getDeclaredFields()) {
      if (!Modifier.isPrivate(field.getModifiers())) {
        seen.add(field.getName());
      }
    }
    return seen.toString();
  }
}
