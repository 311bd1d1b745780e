import java.util.List;

/** The second model's sayings: a class for each kind, so that Java itself finds the body of an act and its super. */
final class ModelSayings {
  static final List<Class<? extends Saying>> KINDS = List.of(Saying.class, New.class, Shared.class,
      Again.class, Stopped.class, Taken.class, Easy.class, Unheard.class);

  private ModelSayings() { }

  static Saying of(int kind, int n, List<Integer> trace) {
    switch (kind) {
      case 0: return new Saying(n, trace);
      case 1: return new New(n, trace);
      case 2: return new Shared(n, trace);
      case 3: return new Again(n, trace);
      case 4: return new Stopped(n, trace);
      case 5: return new Taken(n, trace);
      case 6: return new Easy(n, trace);
      default: return new Unheard(n, trace);
    }
  }

  interface Knows {
    int number();

    void ran(int body);

    default int knows(int x) {
      ran(1);
      return x + number();
    }
  }

  interface Decides extends Knows {
    int speaks(int x);

    int stops(int x);

    default int decides(int x) {
      ran(2);
      return speaks(x) - stops(1);
    }
  }

  static class Saying implements Decides {
    private final int n;
    private final List<Integer> trace;

    Saying(int n, List<Integer> trace) {
      this.n = n;
      this.trace = trace;
    }

    @Override public int number() {
      return n;
    }

    @Override public void ran(int body) {
      trace.add(body);
    }

    @Override public int speaks(int x) {
      ran(10);
      return knows(x) * 2;
    }

    @Override public int stops(int x) {
      ran(11);
      return x ^ n;
    }
  }

  static class New extends Saying {
    New(int n, List<Integer> trace) {
      super(n, trace);
    }

    @Override public int knows(int x) {
      ran(20);
      return super.knows(x) + 3;
    }
  }

  static class Shared extends Saying {
    Shared(int n, List<Integer> trace) {
      super(n, trace);
    }

    @Override public int speaks(int x) {
      ran(30);
      return -super.speaks(x);
    }
  }

  static class Again extends Shared {
    Again(int n, List<Integer> trace) {
      super(n, trace);
    }

    @Override public int stops(int x) {
      ran(40);
      return super.stops(x) * 3;
    }

    @Override public int speaks(int x) {
      ran(41);
      return super.speaks(x + 1);
    }
  }

  static class Stopped extends Saying {
    Stopped(int n, List<Integer> trace) {
      super(n, trace);
    }

    @Override public int stops(int x) {
      ran(50);
      return super.stops(x) - knows(2);
    }
  }

  static class Taken extends Again {
    Taken(int n, List<Integer> trace) {
      super(n, trace);
    }

    @Override public int decides(int x) {
      ran(60);
      return super.decides(x) ^ 5;
    }
  }

  static class Easy extends Saying {
    Easy(int n, List<Integer> trace) {
      super(n, trace);
    }

    @Override public int knows(int x) {
      ran(70);
      return super.knows(x) * 2;
    }
  }

  static class Unheard extends Stopped {
    Unheard(int n, List<Integer> trace) {
      super(n, trace);
    }

    @Override public int speaks(int x) {
      ran(80);
      return super.speaks(x) + stops(2);
    }

    @Override public int decides(int x) {
      ran(81);
      return super.decides(x) - 1;
    }
  }
}
