import java.util.Random;

/**
 * Random runs of 512 calls, all promises at once. No call throws, whatever comes; the same calls give the same
 * answers; and a run in which the refused calls are left out gives the same answers for all others, since what is
 * refused changes nothing.
 */
public final class NeverThrowsTest {
  private static final int[] EDGES = {Due.MIN, Due.MIN + 1, -101, -100, -15, -2, -1, 0, 1, 2, 3, 5, 6, 7, 9, 10, 20, 59,
      60, 61, 99, 100, 120, 255, 256, 1023, 1024, Due.MAX - 1, Due.MAX};
  private static final String LETTERS = "rvenstpl0123456789()!-+*/%<=>&|?;";
  private static final int CALLS = 512, FEED = 4, LAW = 5, MEND = 7, ORDER = 17, FILM = 18, ACT = 23, ELEMENT = 28;

  public static void main(String[] args) {
    for (int seed = 0; seed < 300; seed++) {
      long[][] calls = calls(new Random(seed));
      long[] answers = new long[CALLS];
      boolean[] refused = new boolean[CALLS];
      run(seed, calls, answers, refused, true);
      run(seed, calls, answers, refused, false);
      for (int i = 0; i < CALLS; i++) {
        refused[i] = isRefusal((int) calls[i][0], answers[i]);
      }
      run(seed, calls, answers, refused, false);
    }
    Due.end();
  }

  /** Makes those calls that are not left out; notes their answers, or holds them against those noted before. */
  private static void run(int seed, long[][] calls, long[] answers, boolean[] leftOut, boolean notes) {
    SpeaksInTurn x = new SpeaksInTurn();
    for (int i = 0; i < CALLS; i++) {
      if (leftOut[i]) {
        continue;
      }
      long answer = call(x, calls[i]);
      if (notes) {
        answers[i] = answer;
      } else {
        Due.is("run " + seed + ", call " + i + " (" + calls[i][0] + ")", answer, answers[i]);
      }
    }
  }

  /** Only what may be told for sure by the answer: any number may be the answer of an act, a law takes the tape. */
  private static boolean isRefusal(int call, long answer) {
    if (call == ELEMENT) {
      return answer == Long.MIN_VALUE;
    }
    if (call == LAW || call == ACT) {
      return false;
    }
    boolean anyNumber = call == MEND || call == 8 || call == 12 || call == 14 || call == 19;
    return anyNumber ? answer == Due.VOID : answer < 0 && answer != Due.NOT;
  }

  private static long[][] calls(Random r) {
    long[][] calls = new long[CALLS][];
    int orders = 0;
    int texts = 0;
    for (int i = 0; i < CALLS; i++) {
      int call = r.nextInt(34);
      if (texts > 0) {
        texts--;
        calls[i] = texts == 0 ? new long[] {LAW} : new long[] {FEED, LETTERS.charAt(r.nextInt(LETTERS.length()))};
      } else if (call >= 32) {
        texts = 1 + r.nextInt(6);
        calls[i] = new long[] {FEED, LETTERS.charAt(r.nextInt(8))};
      } else {
        orders += call == ORDER ? 1 : 0;
        calls[i] = drawn(call == ORDER && orders > 3 ? FILM : call, r);
      }
    }
    return calls;
  }

  private static int any(Random random, int below) {
    return random.nextInt(12) == 0 ? EDGES[random.nextInt(EDGES.length)] : random.nextInt(below);
  }

  private static int counts(Random random, int size) {
    return any(random, 2 * size + 1) - size;
  }

  private static long[] drawn(int call, Random r) {
    switch (call) {
      case 0: return new long[] {call, any(r, 100), any(r, 10000)};
      case 1: return new long[] {call, counts(r, 99), any(r, 10)};
      case 2: return new long[] {call, any(r, 6), counts(r, 9), any(r, 1024)};
      case 3: return new long[] {call, any(r, 6), any(r, 60), any(r, 21)};
      case FEED: return new long[] {call, any(r, 256)};
      case 6: return new long[] {call, any(r, 3), any(r, 10)};
      case MEND: return new long[] {call, any(r, 10), any(r, 5), counts(r, 99)};
      case 8: return new long[] {call, any(r, 20), any(r, 23)};
      case 9: return new long[] {call, r.nextInt(3) > 0 ? 0 : any(r, 654321)};
      case 10: return new long[] {call, any(r, 10)};
      case 11: return new long[] {call, any(r, 200), any(r, 7)};
      case 12: return new long[] {call, any(r, 6), any(r, 2)};
      case 13: return new long[] {call, any(r, 10), any(r, 4)};
      case 14: return new long[] {call, any(r, 20), any(r, 2)};
      case 15: case 16: case ORDER: return new long[] {call, any(r, 3)};
      case FILM: return new long[] {call, any(r, 6)};
      case 19: return new long[] {call, any(r, 10), any(r, 6)};
      case 22: return new long[] {call, any(r, 8)};
      case ACT: return new long[] {call, any(r, 50), any(r, 4), r.nextInt()};
      case 24: return new long[] {call, any(r, 24)};
      case 25: return new long[] {call, any(r, 6), any(r, 50) - 1};
      case 26: return new long[] {call, any(r, 6), any(r, 5), any(r, 61)};
      case 27: return new long[] {call, any(r, 6), any(r, 60), r.nextLong()};
      case ELEMENT: return new long[] {call, any(r, 6), any(r, 60)};
      case 29: return new long[] {call, any(r, 6), any(r, 60), any(r, 6), any(r, 60), any(r, 60)};
      case 30: return new long[] {call, any(r, 6), any(r, 8)};
      case 31: return new long[] {call, any(r, 7)};
      default: return new long[] {call};
    }
  }

  private static long call(SpeaksInTurn x, long[] c) {
    int a = c.length > 1 ? (int) c[1] : 0;
    int b = c.length > 2 ? (int) c[2] : 0;
    int d = c.length > 3 ? (int) c[3] : 0;
    switch ((int) c[0]) {
      case 0: return x.person(a, b);
      case 1: return x.thing(a, b);
      case 2: return x.card(a, b, d);
      case 3: return x.cards(a, b, d);
      case FEED: return x.feed(a);
      case LAW: return x.law();
      case 6: return x.set(a, b);
      case MEND: return x.mend(a, b, d);
      case 8: return x.of(a, b);
      case 9: return x.meet(a);
      case 10: return x.told(a);
      case 11: return x.saying(a, b);
      case 12: return x.took(a, b);
      case 13: return x.did(a, b);
      case 14: return x.first(a, b);
      case 15: return x.rule(a);
      case 16: return x.times(a);
      case ORDER: return x.order(a);
      case FILM: return x.film(a);
      case 19: return x.wish(a, b);
      case 20: return x.undo();
      case 21: return x.redo();
      case 22: return x.body(a);
      case ACT: return x.act(a, b, d);
      case 24: return x.trace(a);
      case 25: return x.keep(a, b);
      case 26: return x.row(a, b, d);
      case 27: return x.put(a, b, c[3]);
      case ELEMENT: return x.element(a, b);
      case 29: return x.shift(a, b, d, (int) c[4], (int) c[5]);
      case 30: return x.taken(a, b);
      default: return x.count(a);
    }
  }
}
