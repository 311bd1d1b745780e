import java.util.Random;

/** No call throws, whatever comes; the same calls give the same answers; what is refused changes nothing. */
public final class NeverThrowsTest {
  private static final int[] EDGES = {Integer.MIN_VALUE, Integer.MIN_VALUE + 1, -101, -100, -15, -2, -1, 0, 1, 2, 3, 5, 6,
      7, 9, 10, 20, 59, 60, 61, 99, 100, 120, 255, 256, 1023, 1024, Integer.MAX_VALUE - 1, Integer.MAX_VALUE};
  private static final String LETTERS = "rvenstpl0123456789()!-+*/%<=>&|?;";

  public static void main(String[] args) {
    for (int seed = 0; seed < 300; seed++) {
      long first = run(new Random(seed), seed);
      Due.is("run " + seed + " again", run(new Random(seed), seed), first);
    }
    Due.end();
  }

  private static long run(Random random, int seed) {
    SpeaksInTurn x = new SpeaksInTurn();
    long sum = 0;
    int orders = 0;
    for (int i = 0; i < 512; i++) {
      int call = random.nextInt(34);
      if (call == 17 && ++orders > 3) {
        call = 20;
      }
      long before = call >= 32 ? 0 : state(x, seed, i);
      long answer = call(x, call, random);
      sum = sum * 31 + answer;
      if (before != 0 && (answer == -1 || answer <= -3 && answer >= -14) && changes(call)) {
        Due.is("call " + call + " was refused and changed", state(x, seed, i), before);
      }
    }
    return sum;
  }

  /** Acts answer any number, so their answers do not tell a refusal; a mend may answer a worth below 0. */
  private static boolean changes(int call) {
    return call != 23 && call != 5 && call != 7;
  }

  /** A sum over much of what can be asked without holding meetings in thought; only now and then, for it is dear. */
  private static long state(SpeaksInTurn x, int seed, int call) {
    if ((seed + call) % 7 != 0) {
      return 0;
    }
    long sum = 1;
    for (int what = 0; what < 7; what++) {
      sum = sum * 31 + x.count(what);
    }
    for (int what = 0; what < 10; what++) {
      sum = sum * 31 + x.told(what);
    }
    for (int shelf = 0; shelf < 6; shelf++) {
      sum = sum * 31 + x.taken(shelf, 0);
      for (int i = 0; i < 60; i++) {
        sum = sum * 31 + x.element(shelf, i);
      }
    }
    for (int number = 0; number < 20; number++) {
      for (int what = 0; what < 23; what++) {
        sum = sum * 31 + x.of(number, what);
      }
    }
    return sum == 0 ? 1 : sum;
  }

  private static int any(Random random, int below) {
    return random.nextInt(12) == 0 ? EDGES[random.nextInt(EDGES.length)] : random.nextInt(below);
  }

  private static int counts(Random random, int size) {
    return any(random, 2 * size + 1) - size;
  }

  private static long call(SpeaksInTurn x, int call, Random r) {
    switch (call) {
      case 0: return x.person(any(r, 100), any(r, 10000));
      case 1: return x.thing(counts(r, 99), any(r, 10));
      case 2: return x.card(any(r, 6), counts(r, 9), any(r, 1024));
      case 3: return x.cards(any(r, 6), any(r, 60), any(r, 21));
      case 4: return x.feed(any(r, 256));
      case 5: return x.law();
      case 6: return x.set(any(r, 3), any(r, 10));
      case 7: return x.mend(any(r, 10), any(r, 5), counts(r, 99));
      case 8: return x.of(any(r, 20), any(r, 23));
      case 9: return x.meet(r.nextInt(3) > 0 ? 0 : any(r, 654321));
      case 10: return x.told(any(r, 10));
      case 11: return x.saying(any(r, 200), any(r, 7));
      case 12: return x.took(any(r, 6), any(r, 2));
      case 13: return x.did(any(r, 10), any(r, 4));
      case 14: return x.first(any(r, 20), any(r, 2));
      case 15: return x.rule(any(r, 3));
      case 16: return x.times(any(r, 3));
      case 17: return x.order(any(r, 3));
      case 18: return x.film(any(r, 6));
      case 19: return x.wish(any(r, 10), any(r, 6));
      case 20: return x.undo();
      case 21: return x.redo();
      case 22: return x.body(any(r, 8));
      case 23: return x.act(any(r, 50), any(r, 4), r.nextInt());
      case 24: return x.trace(any(r, 24));
      case 25: return x.keep(any(r, 6), any(r, 50) - 1);
      case 26: return x.row(any(r, 6), any(r, 5), any(r, 61));
      case 27: return x.put(any(r, 6), any(r, 60), r.nextLong());
      case 28: return x.element(any(r, 6), any(r, 60));
      case 29: return x.shift(any(r, 6), any(r, 60), any(r, 6), any(r, 60), any(r, 60));
      case 30: return x.taken(any(r, 6), any(r, 8));
      case 31: return x.count(any(r, 7));
      default: return feeds(x, r);
    }
  }

  private static long feeds(SpeaksInTurn x, Random r) {
    long sum = 0;
    int n = r.nextInt(6);
    for (int i = 0; i < n; i++) {
      sum += x.feed(LETTERS.charAt(r.nextInt(LETTERS.length())));
    }
    return sum + x.law();
  }
}
