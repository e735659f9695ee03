import java.lang.reflect.Constructor;
import java.lang.reflect.Executable;
import java.lang.reflect.Field;
import java.lang.reflect.Member;
import java.lang.reflect.Method;
import java.lang.reflect.Modifier;
import java.util.ArrayList;
import java.util.Arrays;
import java.util.List;
import java.util.Set;
import java.util.TreeSet;

/** 'The public face' of the document, and those rules of ../shared/LANGUAGE.md that can be seen from outside. */
public final class FaceTest {
  private static final String INDEX = " throws IndexOutOfBoundsException";
  private static final String ARGUMENT = " throws IllegalArgumentException";
  private static final String[] FACE = {
    "int feed(int, int, int, int, int) throws IllegalStateException",
    "int trim(int)" + ARGUMENT,
    "int teach()",
    "int errorAt()",
    "int count(int)" + INDEX,
    "int bark(int, int)" + INDEX,
    "int beater(int, int)" + INDEX,
    "int spirit(int, int)" + INDEX,
    "int sheet(int, int)" + INDEX,
    "int figure(int, int)" + INDEX,
    "int force(int)" + INDEX,
    "int setWeather(int)" + ARGUMENT,
    "int setTourists(int)" + ARGUMENT,
    "int tune(int, int)" + INDEX + ", IllegalArgumentException",
    "int burn(int)" + INDEX,
    "int bring(int, int)" + INDEX + ", IllegalArgumentException",
    "int pass(int)" + ARGUMENT,
    "int until(int)" + INDEX,
    "int foresee(int, int)" + ARGUMENT + ", IndexOutOfBoundsException",
    "int advise(int)" + INDEX,
    "int best(int)" + ARGUMENT,
    "int spare(int)" + ARGUMENT,
    "double mean()",
    "long digest()",
  };

  public static void main(String[] args) {
    publicAndFinal();
    face();
    nothingElseIsSeen();
    classesInside();
    staticFieldsAreFinal();
    sizes();
    Check.finish();
  }

  private static void holds(String what, boolean holds) {
    Check.same(what, holds ? 1 : 0, 1);
  }

  private static List<Class<?>> allClasses() {
    List<Class<?>> all = new ArrayList<>(List.of(BarkMakers.class));
    for (int at = 0; at < all.size(); at++) {
      all.addAll(Arrays.asList(all.get(at).getDeclaredClasses()));
    }
    return all;
  }

  /** "public final class BarkMakers" */
  private static void publicAndFinal() {
    Check.same("public final", BarkMakers.class.getModifiers(), Modifier.PUBLIC | Modifier.FINAL);
    holds("no class above it", BarkMakers.class.getSuperclass() == Object.class);
    holds("no package", BarkMakers.class.getPackageName().isEmpty());
  }

  /** Each constructor and method of the face, with what it takes, answers and throws. */
  private static void face() {
    Constructor<?>[] constructors = BarkMakers.class.getConstructors();
    Check.same("public constructors", constructors.length, 1);
    Check.same("what it takes", constructors[0].getParameterCount(), 0);
    Check.same("what it throws", constructors[0].getExceptionTypes().length, 0);
    Set<String> due = new TreeSet<>(List.of(FACE));
    Set<String> got = new TreeSet<>();
    for (Method method : BarkMakers.class.getDeclaredMethods()) {
      if (Modifier.isPublic(method.getModifiers())) {
        got.add(told(method));
        Check.same(method.getName() + " is public alone", method.getModifiers(), Modifier.PUBLIC);
      }
    }
    if (!got.equals(due)) {
      System.out.println("the face is " + got);
    }
    holds("the face is as the document says", got.equals(due));
  }

  private static String told(Method method) {
    String thrown = names(method.getExceptionTypes());
    return method.getReturnType().getSimpleName() + " " + method.getName() + "(" + names(method.getParameterTypes()) + ")" + (thrown.isEmpty() ? "" : " throws " + thrown);
  }

  private static String names(Class<?>[] types) {
    List<String> names = new ArrayList<>();
    for (Class<?> type : types) {
      names.add(type.getSimpleName());
    }
    return String.join(", ", names);
  }

  /** Rule 1: "no other public, protected or package-visible member", "No private method bears the name of a public one." */
  private static void nothingElseIsSeen() {
    List<Member> members = new ArrayList<>(List.of(BarkMakers.class.getDeclaredFields()));
    members.addAll(List.of(BarkMakers.class.getDeclaredMethods()));
    Set<String> publicNames = new TreeSet<>();
    for (Method method : BarkMakers.class.getMethods()) {
      publicNames.add(method.getName());
    }
    for (Member member : members) {
      boolean isPublicMethod = member instanceof Method && Modifier.isPublic(member.getModifiers());
      holds(member.getName() + " is private", isPublicMethod || Modifier.isPrivate(member.getModifiers()));
    }
    for (Class<?> one : allClasses()) {
      for (Method method : one.getDeclaredMethods()) {
        holds(one.getSimpleName() + "." + method.getName() + " bears no public name, if it is private",
            !Modifier.isPrivate(method.getModifiers()) || !publicNames.contains(method.getName()));
      }
    }
    Check.same("constructors in all", BarkMakers.class.getDeclaredConstructors().length, 1);
  }

  /** Rule 1: "the classes inside it, which are private or package-visible and static"; rule 11: "at most some twelve classes". */
  private static void classesInside() {
    for (Class<?> inside : BarkMakers.class.getDeclaredClasses()) {
      int modifiers = inside.getModifiers();
      holds(inside.getSimpleName() + " is static", Modifier.isStatic(modifiers));
      holds(inside.getSimpleName() + " is not to be seen", !Modifier.isPublic(modifiers) && !Modifier.isProtected(modifiers));
    }
    holds("at most twelve classes", allClasses().size() <= 12);
  }

  /** Rule 5: "Static fields are final". */
  private static void staticFieldsAreFinal() {
    for (Class<?> one : allClasses()) {
      for (Field field : one.getDeclaredFields()) {
        boolean fine = !Modifier.isStatic(field.getModifiers()) || Modifier.isFinal(field.getModifiers());
        holds(one.getSimpleName() + "." + field.getName() + " is final, if it is static", fine);
      }
    }
  }

  /** Rule 11: "at most seven parameters", "a class some twenty fields beside its constants". */
  private static void sizes() {
    for (Class<?> one : allClasses()) {
      List<Executable> calls = new ArrayList<>(List.of(one.getDeclaredMethods()));
      calls.addAll(List.of(one.getDeclaredConstructors()));
      for (Executable call : calls) {
        holds(one.getSimpleName() + "." + call.getName() + " takes at most seven", call.getParameterCount() <= 7);
      }
      long fields = Arrays.stream(one.getDeclaredFields()).filter(field -> !Modifier.isStatic(field.getModifiers())).count();
      holds(one.getSimpleName() + " has at most twenty fields", fields <= 20);
    }
  }
}
