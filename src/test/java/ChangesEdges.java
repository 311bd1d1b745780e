/** The boundary cases of promises 22 and 23: changes undone and done again. */
final class ChangesEdges {
  private ChangesEdges() { }

  static void run() {
    none();
    howMany();
    sameNumber();
    cameBehind();
    atMostForty();
    fortyTwice();
    unlikeOnes();
    whatIsNone();
    eachOfFive();
  }

  private static SpeaksInTurn table() {
    SpeaksInTurn x = new SpeaksInTurn();
    x.person(0, 0);
    x.thing(0, 0);
    return x;
  }

  private static void none() {
    Due.promise(22, "STATE: none");
    SpeaksInTurn x = new SpeaksInTurn();
    Due.is("undo() of nothing", x.undo(), Due.STATE);
    x = table();
    Due.is("undo() of a table as it came", x.undo(), Due.STATE);
    Due.promise(23, "STATE: none");
    Due.is("redo() of a table as it came", x.redo(), Due.STATE);
    x.mend(0, 0, 1);
    Due.is("redo() of what is not undone", x.redo(), Due.STATE);
    Due.is("it stays", x.of(0, 0), 1);
    Due.is("count(4)", x.count(4), 1);
    Due.promise(22, "STATE: none that is not undone");
    Due.is("undo()", x.undo(), 0);
    Due.is("undo() again", x.undo(), Due.STATE);
    Due.is("it stays", x.of(0, 0), 0);
    Due.promise(23, "what undo() refused leaves what may be DONE AGAIN");
    Due.is("redo()", x.redo(), 0);
    Due.is("of(0, 0)", x.of(0, 0), 1);
    Due.is("redo() again", x.redo(), Due.STATE);
    Due.is("it stays", x.of(0, 0), 1);
  }

  private static void howMany() {
    SpeaksInTurn x = table();
    for (int v = 1; v <= 3; v++) {
      x.mend(0, 3, v);
    }
    Due.promise(22, "UNDONE, the latest first: how many may still be");
    for (int left = 2; left >= 0; left--) {
      Due.is("undo()", x.undo(), left);
      Due.is("of(0, 10)", x.of(0, 10), left);
      Due.is("count(4)", x.count(4), left);
    }
    Due.promise(23, "DONE AGAIN: how many may still be");
    for (int left = 2; left >= 0; left--) {
      Due.is("redo()", x.redo(), left);
      Due.is("of(0, 10)", x.of(0, 10), 3 - left);
      Due.is("count(4)", x.count(4), 3 - left);
    }
  }

  private static void sameNumber() {
    SpeaksInTurn x = table();
    Due.promise(22, "telling the same number is none");
    Due.is("mend(0, 0, 0)", x.mend(0, 0, 0), 0);
    Due.is("mend(0, 3, 0)", x.mend(0, 3, 0), 0);
    Due.is("undo()", x.undo(), Due.STATE);
    Due.promise(23, "as long as no other came behind: the same number is no other");
    x.mend(0, 0, 5);
    x.undo();
    Due.is("mend(0, 0, 0)", x.mend(0, 0, 0), 0);
    Due.is("mend(0, 1, 0)", x.mend(0, 1, 0), 0);
    Due.is("redo()", x.redo(), 0);
    Due.is("of(0, 0)", x.of(0, 0), 5);
    Due.promise(23, "as long as no other came behind: a refused one is no other");
    x.undo();
    Due.is("mend(0, 0, 10)", x.mend(0, 0, 10), Due.VOID);
    Due.is("mend(1, 0, 3)", x.mend(1, 0, 3), Due.VOID);
    Due.is("mend(0, 5, 3)", x.mend(0, 5, 3), Due.VOID);
    Due.is("redo()", x.redo(), 0);
    Due.is("of(0, 0)", x.of(0, 0), 5);
  }

  private static void cameBehind() {
    SpeaksInTurn x = table();
    for (int v = 1; v <= 3; v++) {
      x.mend(0, 3, v);
    }
    x.undo();
    x.undo();
    Due.promise(23, "as long as no other came behind: one came");
    Due.is("mend(0, 4, 7)", x.mend(0, 4, 7), 0);
    Due.is("redo()", x.redo(), Due.STATE);
    Due.is("WORTH stays", x.of(0, 10), 1);
    Due.is("EASY stays", x.of(0, 11), 7);
    Due.promise(22, "the latest first: the one that came behind");
    Due.is("undo()", x.undo(), 1);
    Due.is("EASY", x.of(0, 11), 0);
    Due.is("undo()", x.undo(), 0);
    Due.is("WORTH", x.of(0, 10), 0);
    Due.promise(23, "DONE AGAIN: what was undone, and not what it came in place of");
    Due.is("redo()", x.redo(), 1);
    Due.is("redo()", x.redo(), 0);
    Due.is("redo()", x.redo(), Due.STATE);
    Due.is("WORTH", x.of(0, 10), 1);
    Due.is("EASY", x.of(0, 11), 7);
    Due.promise(23, "as long as no other came behind: the very change that was undone is another one, too");
    x.undo();
    x.undo();
    Due.is("mend(0, 3, 1)", x.mend(0, 3, 1), 0);
    Due.is("redo()", x.redo(), Due.STATE);
    Due.is("EASY", x.of(0, 11), 0);
  }

  private static void atMostForty() {
    for (int changes = 39; changes <= 42; changes++) {
      SpeaksInTurn x = table();
      for (int v = 1; v <= changes; v++) {
        x.mend(0, 2, v);
      }
      int kept = Math.min(changes, 40);
      Due.promise(22, "40 at most are kept: of " + changes);
      Due.is("count(4)", x.count(4), kept);
      for (int left = kept - 1; left >= 0; left--) {
        Due.is("undo()", x.undo(), left);
      }
      Due.is("no more", x.undo(), Due.STATE);
      Due.is("what is no longer kept stays", x.of(0, 3), changes - kept);
      Due.promise(23, "40 at most are kept: of " + changes);
      for (int left = kept - 1; left >= 0; left--) {
        Due.is("redo()", x.redo(), left);
      }
      Due.is("no more", x.redo(), Due.STATE);
      Due.is("the last", x.of(0, 3), changes);
    }
  }

  private static void fortyTwice() {
    SpeaksInTurn x = table();
    for (int v = 1; v <= 80; v++) {
      x.mend(0, 2, v);
    }
    Due.promise(22, "40 at most are kept: of twice as many");
    Due.is("count(4)", x.count(4), 40);
    for (int i = 0; i < 40; i++) {
      x.undo();
    }
    Due.is("LATE", x.of(0, 3), 40);
    Due.is("no more", x.undo(), Due.STATE);
    Due.promise(23, "one that came behind forty undone ones");
    x.mend(0, 0, 9);
    Due.is("count(4)", x.count(4), 1);
    Due.is("redo()", x.redo(), Due.STATE);
    Due.is("undo()", x.undo(), 0);
    Due.is("LATE", x.of(0, 3), 40);
    Due.is("RANK", x.of(0, 0), 0);
  }

  /** 47 changes, each of another number and part than the one ahead of it: each is undone and done as it was. */
  private static void unlikeOnes() {
    SpeaksInTurn x = table();
    x.person(0, 0);
    x.thing(0, 0);
    int[] told = {0, 1, 3, 10, 11};
    int[] was = new int[47];
    Due.promise(22, "40 at most are kept: each with its number, what it was and what it became");
    for (int i = 0; i < 47; i++) {
      was[i] = x.mend(i % 2, i * 3 % 5, 1 + i % 9);
    }
    for (int i = 46; i >= 7; i--) {
      Due.is("as it became", x.of(i % 2, told[i * 3 % 5]), 1 + i % 9);
      Due.is("undo()", x.undo(), i - 7);
      Due.is("as it was", x.of(i % 2, told[i * 3 % 5]), was[i]);
    }
    Due.is("undo()", x.undo(), Due.STATE);
    Due.promise(23, "40 at most are kept: each with its number, what it was and what it became");
    for (int i = 7; i < 47; i++) {
      Due.is("as it was", x.of(i % 2, told[i * 3 % 5]), was[i]);
      Due.is("redo()", x.redo(), 46 - i);
      Due.is("as it became", x.of(i % 2, told[i * 3 % 5]), 1 + i % 9);
    }
  }

  private static void whatIsNone() {
    SpeaksInTurn x = table();
    x.mend(0, 0, 1);
    x.undo();
    x.person(1, 1);
    x.thing(1, 1);
    x.card(0, 1, 1);
    x.set(0, 1);
    x.set(2, 5);
    Due.law(x, "1");
    x.meet(0);
    x.row(0, 0, 1);
    Due.promise(22, "CHANGES are RANK, VOICE, LATE, WORTH, EASY: nothing else is one");
    Due.is("count(4)", x.count(4), 0);
    Due.is("undo()", x.undo(), Due.STATE);
    Due.promise(23, "as long as no other came behind: nothing else is one");
    Due.is("redo()", x.redo(), 0);
    Due.is("of(0, 0)", x.of(0, 0), 1);
    Due.is("set(0, 1)", x.set(0, 1), 1);
  }

  private static void eachOfFive() {
    int[] told = {0, 1, 3, 10, 11};
    for (int what = 0; what < 5; what++) {
      SpeaksInTurn x = table();
      x.person(0, 0);
      x.thing(0, 0);
      x.mend(1, what, 9);
      Due.promise(22, "RANK, VOICE, LATE, WORTH, EASY can be UNDONE: " + what);
      Due.is("undo()", x.undo(), 0);
      Due.is("of(1, " + told[what] + ")", x.of(1, told[what]), 0);
      Due.promise(23, "RANK, VOICE, LATE, WORTH, EASY can be DONE AGAIN: " + what);
      Due.is("redo()", x.redo(), 0);
      Due.is("of(1, " + told[what] + ")", x.of(1, told[what]), 9);
      Due.is("of(0, " + told[what] + ")", x.of(0, told[what]), 0);
    }
  }
}
