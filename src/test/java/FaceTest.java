import java.lang.reflect.Constructor;
import java.lang.reflect.Field;
import java.lang.reflect.Method;
import java.lang.reflect.Modifier;
import java.util.Arrays;
import java.util.TreeSet;

/** The class has the public face of the document, and nothing else that can be seen from outside. */
public final class FaceTest {
  private static final String[] FACE = {
    "int feed(int,int,int,int,int)", "boolean end(int)", "int book()", "int fault(int)", "int has(int)",
    "int letter(int,int,int)", "int named(int)", "int field(int,int,int)", "int crossing(int,int)",
    "int rule(int,int,int)", "int widens(int,int)", "int length(int,int)", "long read(int,int,int,int)",
    "long get(int,int,int,int)", "boolean write(int,int,int,int,long)", "boolean put(int,int,int,int,long)",
    "int why()", "long cell(int,int,int,int)", "long unlike(int,int,int)", "int make(int)",
    "int copy(int,int)", "boolean drop(int,int)", "int chance(int)", "int cross(int,int)", "int account(int)",
    "int would(int,int,int)", "long round(int,int,int)", "int proved(int,int)", "int way(int,int,int)",
    "int least(int,int,int,int)", "int origins(int,int)", "int tells(int,int)", "int idle(int,int)",
    "boolean undo()", "boolean seed(int)", "int status(int)",
  };

  public static void main(String[] args) {
    Checks checks = new Checks();
    checks.due("NONE", RecordBridge.NONE, -1);
    checks.due("NOTHING", RecordBridge.NOTHING, -4611686018427387904L);
    TreeSet<String> seen = new TreeSet<>();
    TreeSet<String> hidden = new TreeSet<>();
    for (Method method : RecordBridge.class.getDeclaredMethods()) {
      if (!Modifier.isPrivate(method.getModifiers())) {
        seen.add(told(method));
        checks.due("public " + method, Modifier.isPublic(method.getModifiers()), true);
      } else {
        hidden.add(method.getName());
      }
    }
    TreeSet<String> due = new TreeSet<>(Arrays.asList(FACE));
    TreeSet<String> names = new TreeSet<>();
    for (String method : due) {
      names.add(method.substring(method.indexOf(' ') + 1, method.indexOf('(')));
    }
    checks.due("methods " + seen, seen.equals(due), true);
    checkInside(checks, names);
    hidden.retainAll(names);
    checks.due("private methods with public names " + hidden, hidden.size(), 0);
    for (Field field : RecordBridge.class.getDeclaredFields()) {
      boolean constant = field.getName().equals("NONE") || field.getName().equals("NOTHING");
      checks.due("public " + field, Modifier.isPublic(field.getModifiers()), constant);
      checks.due("private " + field, Modifier.isPrivate(field.getModifiers()), !constant);
    }
    Constructor<?>[] constructors = RecordBridge.class.getConstructors();
    checks.due("constructors", constructors.length, 1);
    checks.due("its parameters", constructors[0].getParameterCount(), 0);
    checks.due("public final", RecordBridge.class.getModifiers(), Modifier.PUBLIC | Modifier.FINAL);
    checks.close("FaceTest");
  }

  private static void checkInside(Checks checks, TreeSet<String> names) {
    for (Class<?> inside : RecordBridge.class.getDeclaredClasses()) {
      int modifiers = inside.getModifiers();
      boolean kept = Modifier.isStatic(modifiers) && !Modifier.isPublic(modifiers) && !Modifier.isProtected(modifiers);
      checks.due("kept inside: " + inside, kept, true);
      for (Method method : inside.getDeclaredMethods()) {
        checks.due("a public name inside: " + method, names.contains(method.getName()), false);
      }
    }
  }

  private static String told(Method method) {
    StringBuilder text = new StringBuilder(method.getReturnType().getName() + " " + method.getName() + "(");
    for (int i = 0; i < method.getParameterCount(); i++) {
      text.append(i == 0 ? "" : ",").append(method.getParameterTypes()[i].getName());
    }
    return text.append(")").toString();
  }
}
