import java.lang.reflect.InvocationTargetException;
import java.lang.reflect.Method;
import java.util.Arrays;
import java.util.HashMap;
import java.util.Map;

/** A call by its name, with numbers, of the program or of the model. */
final class Told {
  // Millions of calls are told, and to look a method up takes longer than to call it.
  private static final Map<String, Method> METHODS = new HashMap<>();

  final String name;
  final long[] numbers;

  Told(String name, long... numbers) {
    this.name = name;
    this.numbers = numbers;
  }

  /** From a text such as "seat(0, 0, 2)". */
  static Told from(String text) {
    int open = text.indexOf('(');
    String inside = text.substring(open + 1, text.lastIndexOf(')')).trim();
    long[] numbers = inside.isEmpty() ? new long[0]
        : Arrays.stream(inside.split("\\s*,\\s*")).mapToLong(Long::decode).toArray();
    return new Told(text.substring(0, open).trim(), numbers);
  }

  /** What the call throws is thrown on, as no call may throw. */
  long on(Object x) {
    Method method = methodOf(x.getClass());
    Class<?>[] types = method.getParameterTypes();
    Object[] arguments = new Object[numbers.length];
    for (int i = 0; i < numbers.length; i++) {
      arguments[i] = types[i] == long.class ? (Object) numbers[i] : (Object) Math.toIntExact(numbers[i]);
    }
    try {
      return ((Number) method.invoke(x, arguments)).longValue();
    } catch (InvocationTargetException e) {
      throw new IllegalStateException(this + " threw", e.getCause());
    } catch (IllegalAccessException e) {
      throw new IllegalStateException(this + " can't be called", e);
    }
  }

  private Method methodOf(Class<?> c) {
    return METHODS.computeIfAbsent(c.getName() + "." + name, key -> lookUp(c));
  }

  private Method lookUp(Class<?> c) {
    for (Method m : c.getDeclaredMethods()) {
      if (m.getName().equals(name) && m.getParameterCount() == numbers.length) {
        m.setAccessible(true);
        return m;
      }
    }
    throw new IllegalStateException(c + " has no " + this);
  }

  @Override
  public String toString() {
    return name + Arrays.toString(numbers).replace('[', '(').replace(']', ')');
  }
}
