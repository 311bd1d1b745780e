import java.lang.reflect.Method;
import java.lang.reflect.Modifier;
import java.util.Arrays;
import java.util.HashMap;
import java.util.Map;
import java.util.Random;

/**
 * Random runs of 512 calls on the class and on a second model of the document: each answer must be the same. Two
 * arguments, the first run and the one behind the last, make other runs than those that are made without.
 */
public final class ModelTest {
  private static final int CALLS = 512, RUNS = 90, DEAREST = 3;
  private static final int[] EDGES = {Due.MIN, -1, 0, 1, 5, 6, 9, 10, 20, 50, 60, 61, 99, 100, 255, 256, 1023, 1024,
      Due.MAX};
  private static final int[] OF = {0, 1, 2, 3, 10, 11, 20, 21, 22};
  private static final Map<String, Method> FACE = methods(SpeaksInTurn.class);
  private static final Map<String, Method> MODEL = methods(Model.class);

  private final int run;
  private final Random r;
  private final SpeaksInTurn x = new SpeaksInTurn();
  private final Model y = new Model();
  private int calls = 0;
  private int orders = 0;

  private ModelTest(int run) {
    this.run = run;
    r = new Random(run);
  }

  public static void main(String[] args) throws Exception {
    int from = args.length > 1 ? Integer.parseInt(args[0]) : 0;
    int to = args.length > 1 ? Integer.parseInt(args[1]) : RUNS;
    for (int i = from; i < to; i++) {
      ModelTest one = new ModelTest(i);
      if (i % 4 == 3) {
        one.actAndShift();
      } else {
        one.meetAndThink();
      }
    }
    Due.end();
  }

  private static Map<String, Method> methods(Class<?> of) {
    Map<String, Method> found = new HashMap<>();
    for (Method m : of.getDeclaredMethods()) {
      if (Modifier.isPublic(m.getModifiers())) {
        found.put(m.getName(), m);
      }
    }
    return found;
  }

  /** Makes a call on both; answers what the model does. */
  private long ask(String name, long... args) throws ReflectiveOperationException {
    if (calls == CALLS) {
      return 0;
    }
    calls++;
    long due = answer(MODEL.get(name), y, args);
    long got = answer(FACE.get(name), x, args);
    Due.is("run " + run + ", call " + calls + ", " + name + Arrays.toString(args), got, due);
    return due;
  }

  private static long answer(Method call, Object on, long[] args) throws ReflectiveOperationException {
    Object[] given = new Object[args.length];
    for (int i = 0; i < args.length; i++) {
      if (call.getParameterTypes()[i] == long.class) {
        given[i] = args[i];
      } else {
        given[i] = (int) args[i];
      }
    }
    return ((Number) call.invoke(on, given)).longValue();
  }

  private int below(int n) {
    return r.nextInt(40) == 0 ? EDGES[r.nextInt(EDGES.length)] : r.nextInt(n);
  }

  private int around(int size) {
    return below(2 * size + 1) - size;
  }

  private boolean onceIn(int n) {
    return r.nextInt(n) == 0;
  }

  private void meetAndThink() throws ReflectiveOperationException {
    int things = 1 + r.nextInt(6);
    for (int i = 1 + r.nextInt(10); i > 0; i--) {
      person();
    }
    for (int i = 0; i < things; i++) {
      thing();
    }
    for (int i = r.nextInt(21); i > 0; i--) {
      card(things);
    }
    while (calls < CALLS) {
      meetingCall(things);
    }
  }

  private void meetingCall(int things) throws ReflectiveOperationException {
    switch (r.nextInt(22)) {
      case 0: person(); break;
      case 1: card(things); break;
      case 2: case 3: law(); break;
      case 4: case 5: ask("set", 0, below(6)); break;
      case 6: ask("set", 1 + below(2), below(10)); break;
      case 7: case 8: mend(onceIn(20) ? 99 : 1); break;
      case 9: case 10: case 11: meet(things); break;
      case 12: ask("rule", below(3)); break;
      case 13: ask("times", below(3)); break;
      case 14: order(); break;
      case 15: film(); break;
      case 16: ask("wish", below(10), below(6)); break;
      case 17: case 18: ask(r.nextInt(5) < 3 ? "undo" : "redo"); break;
      case 19: cards(); break;
      case 20: ask("of", below(20), OF[r.nextInt(OF.length)]); break;
      default: ask("count", below(7)); break;
    }
  }

  private void actAndShift() throws ReflectiveOperationException {
    for (int i = onceIn(5) ? 51 : 10; i > 0; i--) {
      ask("body", below(8));
    }
    for (int i = 0; i < 6; i++) {
      ask("row", i, below(5), below(20));
    }
    while (calls < CALLS) {
      shelfCall();
    }
  }

  private void shelfCall() throws ReflectiveOperationException {
    switch (r.nextInt(12)) {
      case 0: ask("body", below(8)); break;
      case 1: case 2: act(); break;
      case 3: ask("keep", below(6), below(12) - 1); break;
      case 4: ask("row", below(6), below(5), below(20)); break;
      case 5: case 6: ask("put", below(6), below(20), onceIn(2) ? r.nextLong() : below(3)); break;
      case 7: ask("element", below(6), below(20)); break;
      case 8: case 9: shift(); break;
      case 10: ask("taken", below(6), below(8)); break;
      default: ask("film", below(6)); break;
    }
  }

  private void person() throws ReflectiveOperationException {
    ask("person", below(100), r.nextInt(100) * 100 + (onceIn(3) ? below(40) : 0));
  }

  private void thing() throws ReflectiveOperationException {
    ask("thing", around(onceIn(2) ? 10 : 99), below(10));
  }

  private void card(int things) throws ReflectiveOperationException {
    int known = onceIn(2) ? 1 << r.nextInt(10) : r.nextInt(1024) & r.nextInt(1024);
    ask("card", below(things), around(9), onceIn(20) ? below(1024) : known);
  }

  private void mend(int times) throws ReflectiveOperationException {
    for (int i = 0; i < times; i++) {
      int what = below(5);
      int v = what == 2 ? below(onceIn(2) ? 20 : 100) : what == 3 ? around(99) : below(10);
      ask("mend", below(what < 3 ? 10 : 6), what, v);
    }
    for (int i = 1; i < times; i++) {
      ask(onceIn(9) ? "redo" : "undo");
    }
  }

  private void law() throws ReflectiveOperationException {
    StringBuilder text = new StringBuilder(new ModelTexts(r).text());
    if (onceIn(4)) {
      text.setCharAt(r.nextInt(text.length()), "rvenstpl09()!-+<;?| x".charAt(r.nextInt(21)));
    }
    for (int full = text.length() + (onceIn(20) ? 121 : 0); text.length() < full; ) {
      text.append("+0");
    }
    for (int i = 0; i < text.length(); i++) {
      ask("feed", text.charAt(i));
    }
    ask("law");
  }

  private void meet(int things) throws ReflectiveOperationException {
    StringBuilder digits = new StringBuilder();
    for (int i = 1; i <= things; i++) {
      digits.insert(r.nextInt(i), i);
    }
    ask("meet", onceIn(2) ? Integer.parseInt(digits.toString()) : onceIn(20) ? below(700000) : 0);
    for (int what = 0; what < 10; what++) {
      ask("told", what);
    }
    for (int i = 0; i < 12; i++) {
      ask("saying", below(1 + Math.max(1, y.told(1))), below(7));
      ask("did", below(10), below(4));
      ask("first", below(20), below(2));
      ask("took", below(6), below(2));
    }
  }

  private void order() throws ReflectiveOperationException {
    if (orders < DEAREST) {
      ask("order", below(3));
    }
    orders++;
  }

  /** A film of a meeting by some rule, at times with a slip in it. */
  private void film() throws ReflectiveOperationException {
    int n = r.nextInt(6);
    int shelf = r.nextInt(6);
    ask("set", 0, r.nextInt(6));
    ask("meet", 0);
    ask("row", shelf, 0, n);
    for (int i = 0; i < n; i++) {
      ask("put", shelf, i, onceIn(30) ? r.nextInt(10) : y.saying(i, 0));
    }
    ask("film", shelf);
  }

  private void cards() throws ReflectiveOperationException {
    int shelf = below(6);
    int n = r.nextInt(14);
    ask("row", shelf, onceIn(6) ? below(5) : 1, n);
    for (int i = 0; i < n; i++) {
      ask("put", shelf, i, i % 3 == 0 ? below(6) : i % 3 == 1 ? around(9) : below(1024));
    }
    ask("cards", shelf, onceIn(3) ? below(15) : 0, 1 + below(5));
  }

  private void act() throws ReflectiveOperationException {
    ask("act", below(12), below(4), onceIn(2) ? below(30) : r.nextInt());
    ask("count", 6);
    for (int i = 0; ask("trace", i) > 0; i++) {
      if (calls == CALLS) {
        return;
      }
    }
  }

  private void shift() throws ReflectiveOperationException {
    int shelf = below(6);
    int other = onceIn(2) ? shelf : below(6);
    ask("shift", shelf, below(8), other, below(8), onceIn(12) ? -below(5) : below(8));
  }
}
