import java.lang.reflect.Array;
import java.util.ArrayList;
import java.util.List;

/**
 * A second model of the document with the class's face, written apart from the class and in another way: lists, Java's
 * own arrays on the shelves, a Java class for each kind of saying. ModelTest compares it with the class.
 */
public final class Model {
  private static final int BAD = -1, NOT = -2, FULL = -3, STATE = -5, VOID = -2000000000, NOBODY = -1;

  private record Change(int number, int what, int was, int is) { }

  private final ModelTable table = new ModelTable();
  private final StringBuilder tape = new StringBuilder();
  private final List<Change> done = new ArrayList<>();
  private final List<Change> undone = new ArrayList<>();
  private final List<ModelSayings.Saying> bodies = new ArrayList<>();
  private final List<Integer> trace = new ArrayList<>();
  private final Object[] shelves = new Object[6];
  private ModelMeeting kept;

  private static boolean in(int least, int v, int most) {
    return least <= v && v <= most;
  }

  /** Whether a list has such a place. */
  private static boolean has(List<?> list, int i) {
    return in(0, i, list.size() - 1);
  }

  // ---- the table

  public int person(int rv, int wl) {
    if (!in(0, rv, 99) || !in(0, wl, 9999)) {
      return BAD;
    }
    ModelTable.Person p = new ModelTable.Person();
    p.rank = rv / 10;
    p.voice = rv % 10;
    p.wage = wl / 100;
    p.late = wl % 100;
    return added(table.people, p, 10);
  }

  /** The number of what comes to a list, or FULL. */
  private static <T> int added(List<T> list, T one, int most) {
    if (list.size() == most) {
      return FULL;
    }
    list.add(one);
    return list.size() - 1;
  }

  public int thing(int worth, int easy) {
    if (!in(-99, worth, 99) || !in(0, easy, 9)) {
      return BAD;
    }
    ModelTable.Thing t = new ModelTable.Thing();
    t.worth = worth;
    t.easy = easy;
    return added(table.things, t, 6);
  }

  public int card(int thing, int counts, int people) {
    if (!has(table.things, thing) || !in(-9, counts, 9) || !in(0, people, 1023)) {
      return BAD;
    }
    return added(table.cards, new ModelTable.Card(thing, counts, people), 20);
  }

  public int cards(int shelf, int i, int n) {
    if (!in(0, shelf, 5) || !in(1, n, 20)) {
      return BAD;
    }
    if (shelves[shelf] == null) {
      return 0;
    }
    if (!(shelves[shelf] instanceof short[])) {
      return -12;
    }
    short[] row = (short[]) shelves[shelf];
    int came = 0;
    int end = row.length - 2;
    for (int k = i; came < n && in(0, k, end - 1) && card(row[k], row[k + 1], row[k + 2]) >= 0; k += 3) {
      came++;
    }
    return came;
  }

  public int feed(int letter) {
    if (!in(0, letter, 255)) {
      return BAD;
    }
    if (tape.length() == 120) {
      return FULL;
    }
    tape.append((char) letter);
    return tape.length();
  }

  public int law() {
    String text = tape.toString();
    tape.setLength(0);
    int fault = ModelLaw.fault(text);
    if (fault >= 0) {
      return -100 - fault;
    }
    table.law = text;
    return 1;
  }

  public int set(int what, int v) {
    if (!in(0, what, 2) || !in(what == 2 ? 1 : 0, v, what == 0 ? 5 : what == 1 ? 1 : 9)) {
      return BAD;
    }
    int was = table.set[what];
    table.set[what] = v;
    return was;
  }

  public int mend(int number, int what, int v) {
    if (!in(0, what, 4) || !has(what < 3 ? table.people : table.things, number)) {
      return VOID;
    }
    if (!in(what == 3 ? -99 : 0, v, what == 2 || what == 3 ? 99 : 9)) {
      return VOID;
    }
    int was = table.exchange(number, what, v);
    if (was != v) {
      undone.clear();
      done.add(new Change(number, what, was, v));
      if (done.size() > 40) {
        done.remove(0);
      }
    }
    return was;
  }

  public int of(int number, int what) {
    boolean person = in(0, what, 3);
    boolean thing = in(10, what, 11);
    List<?> asked = person ? table.people : thing ? table.things : table.cards;
    if (!person && !thing && !in(20, what, 22) || !has(asked, number)) {
      return VOID;
    }
    switch (what) {
      case 0: return table.people.get(number).rank;
      case 1: return table.people.get(number).voice;
      case 2: return table.people.get(number).wage;
      case 3: return table.people.get(number).late;
      case 10: return table.things.get(number).worth;
      case 11: return table.things.get(number).easy;
      case 20: return table.cards.get(number).thing();
      case 21: return table.cards.get(number).counts();
      default: return table.cards.get(number).people();
    }
  }

  // ---- the meeting

  public int meet(int order) {
    String digits = Integer.toString(order);
    int[] agenda = table.asTheyCame();
    for (int t = 0; t < agenda.length && order != 0; t++) {
      int at = digits.indexOf('1' + t);
      if (at < 0 || at >= agenda.length) {
        return BAD;
      }
      agenda[at] = t;
    }
    if (order != 0 && digits.length() != agenda.length) {
      return BAD;
    }
    if (table.isBare()) {
      return STATE;
    }
    kept = held(agenda, NOBODY);
    for (int p = 0; p < table.people.size(); p++) {
      kept.told[9] |= held(agenda, p).told[2] != kept.told[2] ? 1 << p : 0;
    }
    return kept.told[0];
  }

  private ModelMeeting held(int[] agenda, int absent) {
    return new ModelMeeting(table, agenda, table.set[0], table.set[2], absent);
  }

  public int told(int what) {
    if (!in(0, what, 9)) {
      return BAD;
    }
    return kept == null ? STATE : kept.told[what];
  }

  public int saying(int i, int what) {
    if (!in(0, what, 6)) {
      return BAD;
    }
    if (kept == null) {
      return STATE;
    }
    if (!has(kept.sayings, i)) {
      return BAD;
    }
    ModelMeeting.Saying s = kept.sayings.get(i);
    return new int[] {s.who, s.thing, s.begins, s.length, s.fresh, s.again, s.by}[what];
  }

  public int took(int thing, int what) {
    if (kept == null || !in(0, what, 1) || !in(0, thing, kept.took.length - 1)) {
      return VOID;
    }
    return what == 0 ? kept.took[thing] : kept.comes[thing];
  }

  public int did(int person, int what) {
    if (!in(0, what, 3)) {
      return BAD;
    }
    if (kept == null) {
      return STATE;
    }
    int[][] told = {kept.share, kept.stops, kept.taken, kept.there};
    return in(0, person, kept.share.length - 1) ? told[what][person] : BAD;
  }

  public int first(int card, int what) {
    if (kept == null || !in(0, what, 1) || !in(0, card, kept.firstWho.length - 1)) {
      return VOID;
    }
    Integer told = what == 0 ? kept.firstWho[card] : kept.firstIn[card];
    return told == null ? NOT : told;
  }

  // ---- in thought

  /** What was tried with what came of it: the name, how many are wrong, the cost. */
  private static int[] outcome(int name, ModelMeeting held) {
    return new int[] {name, Integer.bitCount(held.told[4]), held.told[7]};
  }

  private static int best(int what, List<int[]> tried) {
    int[] best = tried.get(0);
    for (int[] one : tried) {
      best = one[1] < best[1] || one[1] == best[1] && one[2] < best[2] ? one : best;
    }
    return best[what];
  }

  public int rule(int what) {
    if (!in(0, what, 2)) {
      return BAD;
    }
    List<int[]> tried = new ArrayList<>();
    for (int r = 0; r < 6; r++) {
      tried.add(outcome(r, new ModelMeeting(table, table.asTheyCame(), r, table.set[2], NOBODY)));
    }
    return table.isBare() ? STATE : best(what, tried);
  }

  public int order(int what) {
    if (!in(0, what, 2)) {
      return BAD;
    }
    if (table.isBare() || table.things.size() > 5) {
      return STATE;
    }
    List<int[]> tried = new ArrayList<>();
    tryOrders("", tried);
    return best(what, tried);
  }

  private void tryOrders(String ahead, List<int[]> tried) {
    if (ahead.length() == table.things.size()) {
      int[] agenda = new int[ahead.length()];
      for (int i = 0; i < agenda.length; i++) {
        agenda[i] = ahead.charAt(i) - '1';
      }
      tried.add(outcome(Integer.parseInt(ahead), held(agenda, NOBODY)));
    }
    for (int t = 1; t <= table.things.size(); t++) {
      if (ahead.indexOf('0' + t) < 0) {
        tryOrders(ahead + t, tried);
      }
    }
  }

  public int times(int what) {
    if (!in(0, what, 2)) {
      return BAD;
    }
    List<int[]> tried = new ArrayList<>();
    for (int t = 1; t < 10; t++) {
      tried.add(outcome(t, new ModelMeeting(table, table.asTheyCame(), table.set[0], t, NOBODY)));
    }
    return table.isBare() ? STATE : best(what, tried);
  }

  public int film(int shelf) {
    if (!in(0, shelf, 5)) {
      return BAD;
    }
    if (shelves[shelf] == null) {
      return -11;
    }
    if (!(shelves[shelf] instanceof byte[])) {
      return -12;
    }
    byte[] row = (byte[]) shelves[shelf];
    int bits = 0;
    for (int r = 0; r < 6; r++) {
      ModelMeeting held = new ModelMeeting(table, table.asTheyCame(), r, table.set[2], NOBODY);
      boolean so = held.sayings.size() >= row.length;
      for (int i = 0; so && i < row.length; i++) {
        so = row[i] == held.sayings.get(i).who;
      }
      bits |= so ? 1 << r : 0;
    }
    return table.isBare() ? STATE : bits;
  }

  public int wish(int person, int thing) {
    if (!has(table.people, person) || !has(table.things, thing)) {
      return VOID;
    }
    int unsaid = 0;
    for (int c = 0; c < table.cards.size(); c++) {
      unsaid += table.cards.get(c).thing() == thing && table.knows(person, c) ? 1 : 0;
    }
    ModelTable.Person p = table.people.get(person);
    return ModelLaw.wish(table.law,
        new int[] {p.rank, p.voice, table.things.get(thing).easy, unsaid, 0, 0, person, 0});
  }

  public int undo() {
    if (done.isEmpty()) {
      return STATE;
    }
    Change c = done.remove(done.size() - 1);
    table.exchange(c.number, c.what, c.was);
    undone.add(c);
    return done.size();
  }

  public int redo() {
    if (undone.isEmpty()) {
      return STATE;
    }
    Change c = undone.remove(undone.size() - 1);
    table.exchange(c.number, c.what, c.is);
    done.add(c);
    return undone.size();
  }

  // ---- acts, shelves

  public int body(int kind) {
    return in(0, kind, 7) ? added(bodies, ModelSayings.of(kind, bodies.size(), trace), 50) : BAD;
  }

  public int act(int body, int act, int x) {
    trace.clear();
    if (!has(bodies, body)) {
      return 0;
    }
    ModelSayings.Saying s = bodies.get(body);
    switch (act) {
      case 0: return s.knows(x);
      case 1: return s.speaks(x);
      case 2: return s.stops(x);
      case 3: return s.decides(x);
      default: return 0;
    }
  }

  public int trace(int i) {
    return i < 24 && has(trace, i) ? trace.get(i) : BAD;
  }

  public int keep(int shelf, int body) {
    if (!in(0, shelf, 5) || body != -1 && !has(bodies, body)) {
      return BAD;
    }
    shelves[shelf] = body < 0 ? null : bodies.get(body);
    return 1;
  }

  public int row(int shelf, int sort, int n) {
    if (!in(0, shelf, 5) || !in(0, sort, 4) || n > 60) {
      return BAD;
    }
    if (n < 0) {
      return -14;
    }
    Class<?>[] sorts = {byte.class, short.class, int.class, long.class, boolean.class};
    shelves[shelf] = Array.newInstance(sorts[sort], n);
    return 1;
  }

  /** Why there is no such element, or 0. */
  private int refusal(int shelf, int i) {
    if (!in(0, shelf, 5)) {
      return BAD;
    }
    if (shelves[shelf] == null) {
      return -11;
    }
    if (shelves[shelf] instanceof ModelSayings.Saying) {
      return -12;
    }
    return in(0, i, Array.getLength(shelves[shelf]) - 1) ? 0 : -13;
  }

  public int put(int shelf, int i, long v) {
    int refusal = refusal(shelf, i);
    if (refusal != 0) {
      return refusal;
    }
    if (shelves[shelf] instanceof byte[] row) {
      row[i] = (byte) v;
    } else if (shelves[shelf] instanceof short[] row) {
      row[i] = (short) v;
    } else if (shelves[shelf] instanceof int[] row) {
      row[i] = (int) v;
    } else if (shelves[shelf] instanceof long[] row) {
      row[i] = v;
    } else if (shelves[shelf] instanceof boolean[] row) {
      row[i] = v != 0;
    }
    return 1;
  }

  public long element(int shelf, int i) {
    if (refusal(shelf, i) != 0) {
      return Long.MIN_VALUE;
    }
    if (shelves[shelf] instanceof boolean[] row) {
      return row[i] ? 1 : 0;
    }
    return Array.getLong(shelves[shelf], i);
  }

  public int shift(int shelf, int i, int other, int j, int n) {
    if (!in(0, shelf, 5) || !in(0, other, 5)) {
      return BAD;
    }
    if (shelves[shelf] == null || shelves[other] == null) {
      return -11;
    }
    try {
      System.arraycopy(shelves[shelf], i, shelves[other], j, n);
    } catch (ArrayStoreException unlike) {
      return -12;
    } catch (IndexOutOfBoundsException noPlace) {
      return -13;
    }
    return n;
  }

  public int taken(int shelf, int k) {
    if (!in(0, shelf, 5) || !in(0, k, 7)) {
      return BAD;
    }
    if (shelves[shelf] == null) {
      return -11;
    }
    boolean fits = ModelSayings.KINDS.get(k).isInstance(shelves[shelf]);
    return fits ? ModelSayings.KINDS.indexOf(shelves[shelf].getClass()) : -12;
  }

  public int count(int what) {
    int[] counts = {table.people.size(), table.things.size(), table.cards.size(), tape.length(), done.size(),
        bodies.size(), trace.size()};
    return in(0, what, 6) ? counts[what] : BAD;
  }
}
