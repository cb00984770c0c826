import java.lang.reflect.InvocationTargetException;
import java.lang.reflect.Method;
import java.util.Arrays;
import java.util.Comparator;
import java.util.Random;

/** Drawn calls with wild arguments: only what the face declares is thrown, and the agency stays sound. */
public final class WildTest {
  private static final int[] WILD = {Integer.MIN_VALUE, Integer.MAX_VALUE, -1, 0, 1, 31, 32, 64, 240, 365, 65535, 65536};

  public static void main(String[] args) throws Exception {
    Method[] face = Arrays.stream(FirstdanceAgency.class.getMethods())
        .filter(m -> m.getDeclaringClass() == FirstdanceAgency.class)
        .sorted(Comparator.comparing(Method::getName)).toArray(Method[]::new);
    for (int run = 0; run < 300; run++) {
      Random random = new Random(run);
      FirstdanceAgency x = new FirstdanceAgency();
      for (int k = 0; k < 500; k++) {
        call(x, face[random.nextInt(face.length)], random);
      }
      Checks.due("run " + run + ": isSound", x.isSound(), true);
    }
    Checks.end("WildTest");
  }

  private static void call(FirstdanceAgency x, Method method, Random random) throws Exception {
    Object[] arguments = new Object[method.getParameterCount()];
    for (int k = 0; k < arguments.length; k++) {
      boolean isBoolean = method.getParameterTypes()[k] == boolean.class;
      arguments[k] = isBoolean ? (Object) random.nextBoolean() : (Object) number(random);
    }
    try {
      method.invoke(x, arguments);
    } catch (InvocationTargetException e) {
      Class<?> thrown = e.getCause().getClass();
      boolean isDeclared = Arrays.asList(method.getExceptionTypes()).contains(thrown);
      Checks.due(method.getName() + Arrays.toString(arguments) + " throws " + thrown + ", declared", isDeclared, true);
    }
  }

  private static int number(Random random) {
    int kind = random.nextInt(20);
    return kind == 0 ? WILD[random.nextInt(WILD.length)] : kind < 14 ? random.nextInt(8) : random.nextInt(26);
  }
}
