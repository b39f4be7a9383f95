import java.lang.reflect.Constructor;
import java.lang.reflect.Field;
import java.lang.reflect.Method;
import java.lang.reflect.Modifier;
import java.util.Map;
import java.util.TreeMap;

/** The class has the document's public members and no others that can be seen from outside. */
public final class FaceTest {
  private static final String[] FACE = {
    "int component(int, int, int, int)", "boolean depends(int, int)",
    "boolean application(int, boolean)", "int start()", "int create(int)",
    "int call(int, int, int)", "int finish(int, int)", "int tick(int)",
    "int submit(int, int, boolean)", "int cancel(int)", "int shutdown()", "int state(int)",
    "int result(int)", "int instance(int)", "int session(int)", "int task(int)",
    "int instances(int)", "int waiting(int)", "int events()", "int event(int)"
  };

  public static void main(String[] args) {
    Script.due("class", Modifier.toString(SessionHost.class.getModifiers()), "public final");
    Script.due("methods", visibleMethods().toString(), wantedMethods().toString());
    for (Constructor<?> constructor : SessionHost.class.getDeclaredConstructors()) {
      Script.due("constructor", constructor.toString(), "public SessionHost()");
    }
    for (Field field : SessionHost.class.getDeclaredFields()) {
      Script.due("field " + field.getName(), isPrivate(field.getModifiers()), "private");
      boolean changing = Modifier.isStatic(field.getModifiers()) && !isFinal(field);
      Script.due("static field " + field.getName(), changing ? "changes" : "stays", "stays");
    }
    for (Class<?> inside : SessionHost.class.getDeclaredClasses()) {
      boolean nested = Modifier.isStatic(inside.getModifiers());
      Script.due("class " + inside.getName(), nested ? "static" : "inner", "static");
    }
    Script.end();
  }

  private static boolean isFinal(Field field) {
    return Modifier.isFinal(field.getModifiers());
  }

  private static String isPrivate(int modifiers) {
    return Modifier.isPrivate(modifiers) ? "private" : "visible";
  }

  private static Map<String, String> wantedMethods() {
    Map<String, String> wanted = new TreeMap<>();
    for (String text : FACE) {
      String name = text.substring(text.indexOf(' ') + 1, text.indexOf('('));
      wanted.put(name, "public " + text);
    }
    return wanted;
  }

  private static Map<String, String> visibleMethods() {
    Map<String, String> visible = new TreeMap<>();
    for (Method method : SessionHost.class.getDeclaredMethods()) {
      if (!Modifier.isPrivate(method.getModifiers())) {
        String text = method.toGenericString().replace("SessionHost.", "").replace(",", ", ");
        String before = visible.put(method.getName(), text);
        Script.due("methods of the name " + method.getName(), String.valueOf(before), "null");
      }
    }
    return visible;
  }
}
