import java.lang.reflect.InvocationTargetException;
import java.lang.reflect.Method;
import java.util.HashMap;
import java.util.Map;

/** Makes calls that are told as text or by name, on the class as on the model. */
final class Calls {
  /** What is free behind so many calls on one object is not tested. */
  static final int MOST = 512;

  private static final Map<Class<?>, Map<String, Method>> METHODS = new HashMap<>();

  private Calls() {}

  /** What a call answers, told as "append(0, 7)"; LOW and HIGH are the ends of int. */
  static String answer(Object object, String told) {
    String name = nameOf(told);
    String inside = told.substring(name.length() + 1, told.length() - 1).trim();
    String[] words = inside.isEmpty() ? new String[0] : inside.split(", *");
    int[] arguments = new int[words.length];
    for (int i = 0; i < words.length; i++) {
      arguments[i] = number(words[i]);
    }
    return answer(object, name, arguments);
  }

  static String nameOf(String told) {
    return told.substring(0, told.indexOf('('));
  }

  private static int number(String word) {
    return switch (word) {
      case "LOW" -> Integer.MIN_VALUE;
      case "HIGH" -> Integer.MAX_VALUE;
      default -> Integer.parseInt(word);
    };
  }

  /** What a call answers; throws.X if it throws X, by X's own class; "nothing" of a void call. */
  static String answer(Object object, String name, int... arguments) {
    Object[] values = new Object[arguments.length];
    for (int i = 0; i < arguments.length; i++) {
      values[i] = arguments[i];
    }
    Method method = methodsOf(object.getClass()).get(name);
    if (method == null || method.getParameterCount() != arguments.length) {
      throw new IllegalStateException("the face has no " + told(name, arguments));
    }
    try {
      Object answer = method.invoke(object, values);
      return method.getReturnType() == void.class ? "nothing" : String.valueOf(answer);
    } catch (InvocationTargetException e) {
      return "throws." + e.getCause().getClass().getSimpleName();
    } catch (IllegalAccessException e) {
      throw new IllegalStateException(e);
    }
  }

  private static Map<String, Method> methodsOf(Class<?> type) {
    Map<String, Method> found = METHODS.get(type);
    if (found == null) {
      found = new HashMap<>();
      for (Method method : type.getMethods()) {
        if (method.getDeclaringClass() == type) {
          found.put(method.getName(), method);
        }
      }
      METHODS.put(type, found);
    }
    return found;
  }

  static String told(String name, int... arguments) {
    StringBuilder text = new StringBuilder(name).append('(');
    for (int i = 0; i < arguments.length; i++) {
      text.append(i == 0 ? "" : ", ").append(arguments[i]);
    }
    return text.append(')').toString();
  }
}
