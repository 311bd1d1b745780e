import java.util.ArrayList;
import java.util.List;

/** The second model's meeting: held as it is made, with all that is told of it (but for who was needed) as it ends. */
final class ModelMeeting {
  static final int NOT = -2, ON_PAPER = -1;

  static final class Saying {
    int who;
    int thing;
    int begins;
    int length;
    int fresh;
    int again = NOT;
    int by = NOT;
  }

  final List<Saying> sayings = new ArrayList<>();
  final int[] took;
  final int[] comes;
  final Integer[] firstWho;
  final Integer[] firstIn;
  final int[] share;
  final int[] stops;
  final int[] taken;
  final int[] there;
  final int[] told = new int[10];
  private final ModelTable table;
  private final int rule;
  private final int timer;
  private final int absent;
  private int now = 0;

  ModelMeeting(ModelTable table, int[] agenda, int rule, int timer, int absent) {
    this.table = table;
    this.rule = rule;
    this.timer = timer;
    this.absent = absent;
    took = new int[table.things.size()];
    comes = new int[table.things.size()];
    firstWho = new Integer[table.cards.size()];
    firstIn = new Integer[table.cards.size()];
    share = new int[table.people.size()];
    stops = new int[table.people.size()];
    taken = new int[table.people.size()];
    there = new int[table.people.size()];
    for (int thing : agenda) {
      discuss(thing);
    }
    settle();
    settlePeople();
  }

  private boolean isThere(int person) {
    return person != absent && now >= table.people.get(person).late;
  }

  private void discuss(int thing) {
    for (int c : rule == 5 ? cardsOf(thing, -1, false) : List.<Integer>of()) {
      firstWho[c] = ON_PAPER;
      firstIn[c] = ON_PAPER;
    }
    while (took[thing] < 60 && sayings.size() < 200) {
      int[] wish = new int[table.people.size()];
      for (int p = 0; p < wish.length; p++) {
        wish[p] = isThere(p) ? ModelLaw.wish(table.law, names(p, thing)) : 0;
      }
      int who = next(thing, wish);
      if (who < 0) {
        return;
      }
      speak(who, thing, wish);
    }
  }

  /** The cards of a thing, said or not, that one person knows, or (-1) anybody there. */
  private List<Integer> cardsOf(int thing, int person, boolean said) {
    List<Integer> found = new ArrayList<>();
    for (int c = 0; c < firstWho.length; c++) {
      if (table.cards.get(c).thing() == thing && firstWho[c] != null == said
          && (person < 0 ? isKnownThere(c) : table.knows(person, c))) {
        found.add(c);
      }
    }
    return found;
  }

  private boolean isKnownThere(int card) {
    for (int p = 0; p < table.people.size(); p++) {
      if (isThere(p) && table.knows(p, card)) {
        return true;
      }
    }
    return false;
  }

  private int last() {
    return sayings.isEmpty() ? -1 : sayings.get(sayings.size() - 1).who;
  }

  private int spoken(int person, int thing) {
    int times = 0;
    for (Saying s : sayings) {
      times += s.who == person && s.thing == thing ? 1 : 0;
    }
    return times;
  }

  private int[] names(int person, int thing) {
    ModelTable.Person p = table.people.get(person);
    int unsaid = cardsOf(thing, person, false).size();
    int wasLast = last() == person ? 1 : 0;
    return new int[] {p.rank, p.voice, table.things.get(thing).easy, unsaid, spoken(person, thing), took[thing], person,
        wasLast};
  }

  private int next(int thing, int[] wish) {
    List<Integer> wishing = new ArrayList<>();
    for (int p = 0; p < wish.length; p++) {
      if (wish[p] > 0) {
        wishing.add(p);
      }
    }
    if (wishing.isEmpty()) {
      return -1;
    }
    switch (rule) {
      case 1: return behindLast(wishing);
      case 2: return greatest(leastSpoken(wishing, thing), wish);
      case 3: return wishing.contains(last()) ? last() : behindLast(wishing);
      case 4: return greatest(withoutChiefs(wishing), wish);
      default: return greatest(wishing, wish);
    }
  }

  private int behindLast(List<Integer> wishing) {
    for (int p : wishing) {
      if (p > last()) {
        return p;
      }
    }
    return wishing.get(0);
  }

  private List<Integer> leastSpoken(List<Integer> wishing, int thing) {
    int least = Integer.MAX_VALUE;
    for (int p : wishing) {
      least = Math.min(least, spoken(p, thing));
    }
    List<Integer> left = new ArrayList<>(wishing);
    int fewest = least;
    left.removeIf(p -> spoken(p, thing) > fewest);
    return left;
  }

  private List<Integer> withoutChiefs(List<Integer> wishing) {
    int top = -1;
    for (int p = 0; p < table.people.size(); p++) {
      top = isThere(p) ? Math.max(top, table.people.get(p).rank) : top;
    }
    List<Integer> left = new ArrayList<>(wishing);
    int rank = top;
    left.removeIf(p -> table.people.get(p).rank == rank);
    return left.isEmpty() ? wishing : left;
  }

  private static int greatest(List<Integer> wishing, int[] wish) {
    int best = wishing.get(0);
    for (int p : wishing) {
      best = wish[p] > wish[best] ? p : best;
    }
    return best;
  }

  private void speak(int who, int thing, int[] wish) {
    Saying s = new Saying();
    s.who = who;
    s.thing = thing;
    s.begins = now;
    s.by = stopper(who, wish);
    List<Integer> old = cardsOf(thing, who, true);
    List<Integer> fresh = cardsOf(thing, who, false);
    double whole = Math.min(timer, 1 + fresh.size());
    s.length = s.by != NOT ? 1 : (int) Math.ceil(table.set[1] == 1 ? whole * 2 / 3 : whole);
    fresh = fresh.subList(0, Math.min(fresh.size(), timer - 1));
    fresh = fresh.subList(0, Math.min(fresh.size(), s.by != NOT ? 1 : fresh.size()));
    for (int c : fresh) {
      s.fresh |= 1 << c;
      firstWho[c] = who;
      firstIn[c] = sayings.size();
    }
    if (fresh.isEmpty() && !old.isEmpty()) {
      s.again = old.get(0);
      int first = firstWho[s.again];
      taken[who] += first != ON_PAPER && first != who ? 1 : 0;
    }
    if (s.by != NOT) {
      stops[s.by]++;
    }
    took[thing] += s.length;
    now += s.length;
    sayings.add(s);
  }

  /** The first louder one who wishes more, but not the one who stopped one as one spoke the last time. */
  private int stopper(int who, int[] wish) {
    int barred = NOT;
    for (Saying before : sayings) {
      barred = before.who == who ? before.by : barred;
    }
    for (int p = 0; p < wish.length; p++) {
      int louder = table.people.get(p).voice - table.people.get(who).voice;
      if (p != who && p != barred && isThere(p) && louder >= 3 && wish[p] > wish[who]) {
        return p;
      }
    }
    return NOT;
  }

  private void settle() {
    told[0] = now;
    told[1] = sayings.size();
    int most = -1;
    for (int t = 0; t < comes.length; t++) {
      int worth = table.things.get(t).worth;
      comes[t] = worth;
      int byAll = worth;
      for (int c = 0; c < firstWho.length; c++) {
        int counts = table.cards.get(c).thing() == t ? table.cards.get(c).counts() : 0;
        comes[t] += firstWho[c] != null ? counts : 0;
        byAll += table.knowers(c) > 0 ? counts : 0;
      }
      told[2] |= comes[t] > 0 ? 1 << t : 0;
      told[4] |= comes[t] > 0 != byAll > 0 ? 1 << t : 0;
      int byWorth = 1000 * took[t] / (Math.abs(worth) + 1);
      if (byWorth > most) {
        most = byWorth;
        told[8] = t;
      }
    }
    for (int c = 0; c < firstWho.length; c++) {
      told[3] |= firstWho[c] == null && isKnownThere(c) ? 1 << c : 0;
      told[5] += firstWho[c] != null && table.knowers(c) == 1 ? 1 : 0;
      told[6] += table.knowers(c) == 1 ? 1 : 0;
    }
  }

  private void settlePeople() {
    for (int p = 0; p < share.length; p++) {
      there[p] = isThere(p) ? now - table.people.get(p).late : 0;
      told[7] += table.people.get(p).wage * there[p];
      int spoke = 0;
      for (Saying s : sayings) {
        spoke += s.who == p ? s.length : 0;
      }
      share[p] = now > 0 ? 1000 * spoke / now : 0;
    }
  }
}
