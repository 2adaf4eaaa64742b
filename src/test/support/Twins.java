import java.lang.reflect.Method;
import java.util.Arrays;
import java.util.HashMap;
import java.util.Map;

/** A MostSold and a Model that are told the same: each answer of the one is held against the other's. */
final class Twins {
  private static final Map<String, Method> OF_MOST_SOLD = byName(MostSold.class);
  private static final Map<String, Method> OF_MODEL = byName(Model.class);

  private final MostSold x = new MostSold();
  private final Model y = new Model();
  private final String stage;
  private int calls = 0;

  Twins(String stage) {
    this.stage = stage;
  }

  private static Map<String, Method> byName(Class<?> c) {
    Map<String, Method> all = new HashMap<>();
    for (Method m : c.getDeclaredMethods()) {
      if (!java.lang.reflect.Modifier.isPrivate(m.getModifiers())) all.put(m.getName(), m);
    }
    return all;
  }

  int calls() {
    return calls;
  }

  void call(String name, int... args) {
    calls++;
    String told = stage + ", call " + calls + ": " + name + Arrays.toString(args);
    Due.is(told, answer(OF_MOST_SOLD.get(name), x, args), answer(OF_MODEL.get(name), y, args));
  }

  private static long answer(Method m, Object of, int[] args) {
    Class<?>[] types = m.getParameterTypes();
    Object[] given = new Object[args.length];
    for (int i = 0; i < args.length; i++) {
      if (types[i] == long.class) given[i] = (long) args[i];
      else given[i] = args[i];
    }
    try {
      return ((Number) m.invoke(of, given)).longValue();
    } catch (ReflectiveOperationException e) {
      throw new AssertionError(m.getName() + Arrays.toString(args), e);
    }
  }
}
