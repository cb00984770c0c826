import java.lang.reflect.InvocationTargetException;
import java.lang.reflect.Method;
import java.util.Arrays;
import java.util.Comparator;
import java.util.function.Supplier;

/**
 * Runs the tests of a class: each is a static method without arguments, named promiseNN and what its sentence says, so
 * that one finds the promise by its number. Holds what the tests of boundaries have in common.
 */
final class Bounds {
  static final Class<?> INDEX = IndexOutOfBoundsException.class;
  static final Class<?> ARGUMENT = IllegalArgumentException.class;
  static final Class<?> STATE = IllegalStateException.class;
  static final int ALL = 65535;
  static final int NONE = -1;
  static final int ASKED = 0;
  static final int FIXED = 1;
  static final int PLAYED = 2;
  static final int LOST = 3;

  interface Told {
    void by(FirstdanceAgency x, int value);
  }

  private static String test = "";

  private Bounds() {}

  /** Each promise from the first to the last one has to have tests. */
  static void runAll(Class<?> tests, int first, int last) {
    Method[] all = Arrays.stream(tests.getDeclaredMethods())
        .filter(m -> m.getName().startsWith("promise") && m.getParameterCount() == 0)
        .sorted(Comparator.comparing(Method::getName)).toArray(Method[]::new);
    boolean[] has = new boolean[31];
    for (Method method : all) {
      test = method.getName();
      has[Integer.parseInt(test.substring(7, 9))] = true;
      runOne(method);
    }
    test = tests.getSimpleName();
    for (int promise = first; promise <= last; promise++) {
      due("promise " + promise + " has tests", has[promise], true);
    }
  }

  private static void runOne(Method method) {
    String thrown = "nothing";
    try {
      method.setAccessible(true);
      method.invoke(null);
    } catch (InvocationTargetException e) {
      thrown = e.getCause().toString();
    } catch (IllegalAccessException e) {
      thrown = e.toString();
    }
    due("the test throws", thrown, "nothing");
  }

  static void due(String what, Object got, Object want) {
    Checks.due(test + ": " + what, got, want);
  }

  /** Refused by that exception, and nothing has changed behind it. */
  static void refused(FirstdanceAgency x, String what, Class<?> thrown, Checks.Call call) {
    Checks.refused(x, test + ": " + what, thrown, call);
  }

  static void taken(String what, Checks.Call call) {
    String thrown = "nothing";
    try {
      call.run();
    } catch (RuntimeException e) {
      thrown = e.toString();
    }
    due(what + " throws", thrown, "nothing");
  }

  /** The first and the last value are taken, each by a new agency; those beside them, and far away, are refused. */
  static void range(Supplier<FirstdanceAgency> make, Class<?> thrown, int first, int last, Told call) {
    for (int value : new int[] {first, last}) {
      FirstdanceAgency x = make.get();
      taken("with " + value, () -> call.by(x, value));
    }
    FirstdanceAgency x = make.get();
    for (int value : new int[] {first - 1, last + 1, Integer.MIN_VALUE, Integer.MAX_VALUE}) {
      refused(x, "with " + value, thrown, () -> call.by(x, value));
    }
    for (int value : new int[] {first, last}) {
      taken("behind what was refused, with " + value, () -> call.by(make.get(), value));
    }
  }

  /** Of a number that counts what is there: without any, 0 is refused already. */
  static void numbers(Supplier<FirstdanceAgency> none, Supplier<FirstdanceAgency> some, int howMany, Told call) {
    FirstdanceAgency x = none.get();
    refused(x, "0 where there is none", INDEX, () -> call.by(x, 0));
    refused(x, "-1 where there is none", INDEX, () -> call.by(x, -1));
    range(some, INDEX, 0, howMany - 1, call);
  }

  // ---- agencies to begin with

  static FirstdanceAgency empty() {
    return new FirstdanceAgency();
  }

  /** Two who play 0 (fees 10 and 20) and two who play 1 (30 and 40), of the town 0, all songs; a band of one each. */
  static FirstdanceAgency four() {
    FirstdanceAgency x = new FirstdanceAgency();
    x.player(1, ALL, 0, 10);
    x.player(1, ALL, 0, 20);
    x.player(2, ALL, 0, 30);
    x.player(2, ALL, 0, 40);
    x.band(4);
    return x;
  }

  /** One who plays 0, knows nothing and lives in the town 0; three bands of just one who plays 0. */
  static FirstdanceAgency solo(int fee) {
    FirstdanceAgency x = new FirstdanceAgency();
    x.player(1, 0, 0, fee);
    x.band(1);
    x.band(1);
    x.band(1);
    return x;
  }

  /** four() with two weddings that are asked for, of two days. */
  static FirstdanceAgency asked() {
    FirstdanceAgency x = four();
    x.ask(0, 40, 0, 10, 1, 0);
    x.ask(0, 41, 0, 10, 1, 0);
    return x;
  }

  /** four() with two weddings that are fixed, of two days. */
  static FirstdanceAgency fixed() {
    FirstdanceAgency x = asked();
    x.fix(0);
    x.fix(1);
    return x;
  }

  /**
   * As many players, bands and weddings as there can be, all of the day 40: w is of the band w % 6 and from 10 + w % 6
   * on for an hour, so that one player alone can play one of each band.
   */
  static FirstdanceAgency full() {
    FirstdanceAgency x = new FirstdanceAgency();
    for (int p = 0; p < 10; p++) {
      x.player(1, ALL, 0, 10);
    }
    for (int b = 0; b < 6; b++) {
      x.band(1);
    }
    for (int w = 0; w < 14; w++) {
      x.ask(w % 6, 40, 0, 10 + w % 6, 1, 0);
    }
    return x;
  }

  /** Lets days go by until that one is today. */
  static void passTo(FirstdanceAgency x, int day) {
    while (x.desk(0) < day) {
      x.pass(Math.min(60, day - x.desk(0)));
    }
  }
}
