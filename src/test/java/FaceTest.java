import java.lang.reflect.Constructor;
import java.lang.reflect.Field;
import java.lang.reflect.Method;
import java.lang.reflect.Modifier;
import java.util.Map;
import java.util.TreeMap;

/** The public face is the one that the document prints, and nothing else shows. */
final class FaceTest {
  private static final String INDEX = " IndexOutOfBoundsException";
  private static final String ARGUMENT = " IllegalArgumentException";
  private static final String STATE = " IllegalStateException";

  public static void main(String[] args) {
    Map<String, String> due = new TreeMap<>();
    due.put("setGround", "int(int,int,int)" + INDEX + ARGUMENT);
    due.put("setWater", "int(int,int)" + INDEX + ARGUMENT);
    due.put("setStake", "int(int,int,int)" + INDEX + ARGUMENT);
    due.put("cell", "int(int,int,int)" + INDEX);
    due.put("addLanding", "int(int,int)" + INDEX + STATE);
    due.put("launch", "int(int,int,int,int,int,int)" + INDEX + ARGUMENT + STATE);
    due.put("setToll", "int(int,int)" + INDEX + ARGUMENT);
    due.put("punt", "int(int,int)" + INDEX);
    due.put("addTraveller", "int(int,int,int)" + INDEX + ARGUMENT + STATE);
    due.put("traveller", "int(int,int)" + INDEX);
    due.put("landing", "int(int,int)" + INDEX);
    due.put("pass", "int(int)" + ARGUMENT);
    due.put("count", "int(int)" + INDEX);
    due.put("crossing", "int(int,int)" + INDEX + ARGUMENT);
    due.put("opens", "int(int)" + INDEX);
    due.put("chain", "int(int,int,int)" + INDEX);
    due.put("aground", "int(int,int)" + INDEX + ARGUMENT);
    due.put("arrives", "int(int)" + INDEX);
    due.put("mean", "double()");
    due.put("digest", "long()");
    Check.due("the public methods", publicMethods().toString(), due.toString());
    checkRest(due);
    Check.end();
  }

  private static Map<String, String> publicMethods() {
    Map<String, String> found = new TreeMap<>();
    for (Method method : FloodFerry.class.getDeclaredMethods()) {
      if (Modifier.isPublic(method.getModifiers())) {
        StringBuilder text = new StringBuilder(method.getReturnType().getSimpleName()).append("(");
        for (Class<?> type : method.getParameterTypes()) {
          text.append(text.charAt(text.length() - 1) == '(' ? "" : ",").append(type.getSimpleName());
        }
        text.append(")");
        for (Class<?> type : method.getExceptionTypes()) {
          text.append(" ").append(type.getSimpleName());
        }
        found.put(method.getName(), text.toString());
      }
    }
    return found;
  }

  private static void checkRest(Map<String, String> due) {
    int modifiers = FloodFerry.class.getModifiers();
    Check.due("public and final", modifiers, Modifier.PUBLIC | Modifier.FINAL);
    Constructor<?>[] constructors = FloodFerry.class.getConstructors();
    Check.due("public constructors", constructors.length, 1);
    Check.due("its parameters", constructors[0].getParameterCount(), 0);
    for (Constructor<?> constructor : FloodFerry.class.getDeclaredConstructors()) {
      int shown = constructor.getModifiers() & (Modifier.PUBLIC | Modifier.PRIVATE);
      Check.due(constructor + " is public or private", shown != 0 ? 1 : 0, 1);
    }
    for (Field field : FloodFerry.class.getDeclaredFields()) {
      int shown = field.getModifiers();
      Check.due(field + " is private", shown & Modifier.PRIVATE, Modifier.PRIVATE);
      boolean changes = Modifier.isStatic(shown) && !Modifier.isFinal(shown);
      Check.due(field + " is static and changes", changes ? 1 : 0, 0);
    }
    for (Method method : FloodFerry.class.getDeclaredMethods()) {
      if (!Modifier.isPublic(method.getModifiers())) {
        Check.due(method + " is private", method.getModifiers() & Modifier.PRIVATE, Modifier.PRIVATE);
        Check.due(method + " bears a public name", due.containsKey(method.getName()) ? 1 : 0, 0);
      }
    }
  }
}
