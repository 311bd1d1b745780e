import java.util.ArrayList;
import java.util.List;

/** The second model's table: people, things and cards in lists, what is set, and the law as its text. */
final class ModelTable {
  static final class Person {
    int rank;
    int voice;
    int wage;
    int late;
  }

  static final class Thing {
    int worth;
    int easy;
  }

  record Card(int thing, int counts, int people) { }

  final List<Person> people = new ArrayList<>();
  final List<Thing> things = new ArrayList<>();
  final List<Card> cards = new ArrayList<>();
  final int[] set = {0, 0, 3};
  String law = "";

  boolean isBare() {
    return people.isEmpty() || things.isEmpty();
  }

  boolean knows(int person, int card) {
    return (cards.get(card).people() & 1 << person) != 0;
  }

  int knowers(int card) {
    int all = 0;
    for (int p = 0; p < people.size(); p++) {
      all += knows(p, card) ? 1 : 0;
    }
    return all;
  }

  int[] asTheyCame() {
    int[] order = new int[things.size()];
    for (int t = 0; t < order.length; t++) {
      order[t] = t;
    }
    return order;
  }

  /** Puts in a new number; answers the former one. */
  int exchange(int number, int what, int v) {
    Person p = what < 3 ? people.get(number) : null;
    Thing t = what < 3 ? null : things.get(number);
    int was;
    switch (what) {
      case 0: was = p.rank; p.rank = v; return was;
      case 1: was = p.voice; p.voice = v; return was;
      case 2: was = p.late; p.late = v; return was;
      case 3: was = t.worth; t.worth = v; return was;
      default: was = t.easy; t.easy = v; return was;
    }
  }
}
