import java.lang.reflect.Constructor;
import java.lang.reflect.Field;
import java.lang.reflect.Method;
import java.lang.reflect.Modifier;
import java.util.ArrayList;
import java.util.List;
import java.util.TreeSet;

/** The public face is the document's, to the letter, and nothing else can be reached. */
public final class FaceTest {
  private static final String[] METHODS = {
    "int beginBatch() throws IllegalStateException",
    "boolean hasBatch()",
    "boolean put(int,int) throws IllegalArgumentException,IllegalStateException",
    "int delete(int) throws"
        + " IllegalArgumentException,IllegalStateException,NoSuchElementException",
    "int commit() throws IllegalStateException",
    "int abandon() throws IllegalStateException",
    "int openReader() throws IllegalStateException",
    "int closeReader(int) throws IndexOutOfBoundsException",
    "int readers()",
    "int heldBy(int) throws IndexOutOfBoundsException",
    "int epochOf(int) throws IndexOutOfBoundsException",
    "int get(int,int) throws"
        + " IndexOutOfBoundsException,IllegalArgumentException,NoSuchElementException",
    "int next(int,int) throws IndexOutOfBoundsException",
    "int rank(int,int) throws IndexOutOfBoundsException",
    "int size(int) throws IndexOutOfBoundsException",
    "int depth(int) throws IndexOutOfBoundsException",
    "int rootOf(int) throws IndexOutOfBoundsException",
    "int sharedPages(int,int) throws IndexOutOfBoundsException",
    "boolean isFree(int) throws IndexOutOfBoundsException",
    "int pagesInUse()",
    "int leastFree()",
    "int entries(int) throws IndexOutOfBoundsException",
    "int keyAt(int,int) throws IndexOutOfBoundsException",
    "int pageAt(int,int) throws IndexOutOfBoundsException",
    "int currentSlot()",
    "long slotWord(int,int) throws IndexOutOfBoundsException",
    "boolean isWhole(int) throws IndexOutOfBoundsException",
    "int tear(int) throws IndexOutOfBoundsException,IllegalStateException",
    "int crash()",
    "int crashInCommit(int) throws IllegalArgumentException,IllegalStateException",
  };

  public static void main(String[] args) {
    Class<Copperleaf> face = Copperleaf.class;
    String methods = new TreeSet<>(List.of(METHODS)).toString();
    Checks.due("the class", Modifier.toString(face.getModifiers()), "public final");
    Checks.due("the methods", methodsOf(face).toString(), methods);
    Checks.due("the fields", openFieldsOf(face).toString(), "[public static final int NONE]");
    Checks.due("the constructors", constructorsOf(face).toString(), "[public Copperleaf()]");
    Checks.due("private methods with a public one's name", clashesIn(face).toString(), "[]");
    Checks.close();
  }

  private static TreeSet<String> methodsOf(Class<?> face) {
    TreeSet<String> lines = new TreeSet<>();
    for (Method method : face.getDeclaredMethods()) {
      if (Modifier.isPrivate(method.getModifiers())) {
        continue;
      }
      boolean plain = method.getModifiers() == Modifier.PUBLIC;
      String modifiers = plain ? "" : Modifier.toString(method.getModifiers()) + " ";
      String thrown = namesOf(method.getExceptionTypes());
      lines.add(
          modifiers
              + method.getReturnType().getSimpleName()
              + " "
              + method.getName()
              + "("
              + namesOf(method.getParameterTypes())
              + ")"
              + (thrown.isEmpty() ? "" : " throws " + thrown));
    }
    return lines;
  }

  private static String namesOf(Class<?>[] types) {
    List<String> names = new ArrayList<>();
    for (Class<?> type : types) {
      names.add(type.getSimpleName());
    }
    return String.join(",", names);
  }

  private static List<String> openFieldsOf(Class<?> face) {
    List<String> lines = new ArrayList<>();
    for (Field field : face.getDeclaredFields()) {
      if (!Modifier.isPrivate(field.getModifiers())) {
        String modifiers = Modifier.toString(field.getModifiers());
        lines.add(modifiers + " " + field.getType().getSimpleName() + " " + field.getName());
      }
    }
    return lines;
  }

  private static List<String> constructorsOf(Class<?> face) {
    List<String> lines = new ArrayList<>();
    for (Constructor<?> constructor : face.getDeclaredConstructors()) {
      lines.add(constructor.toString());
    }
    return lines;
  }

  private static TreeSet<String> clashesIn(Class<?> face) {
    TreeSet<String> open = new TreeSet<>();
    TreeSet<String> hidden = new TreeSet<>();
    for (Method method : face.getDeclaredMethods()) {
      (Modifier.isPublic(method.getModifiers()) ? open : hidden).add(method.getName());
    }
    hidden.retainAll(open);
    return hidden;
  }
}
