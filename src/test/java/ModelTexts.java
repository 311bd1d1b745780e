import java.util.Random;

/** Random texts of laws by the document's grammar, short enough that many of them can be fed to one object. */
final class ModelTexts {
  private static final String[] LIKELY = {"v-s", "n*9+e-s*4", "v+1", "9-s", "r-s", "n", "v*2-t/9", "p+1", "10*n+v-5*s",
      "l*3+v-s", "t<50", "s<3", "e+v-s*2", "n+1", "1", "t<57?p=0;n+1"};
  private static final String[] LOOSEST_FIRST = {"|", "&", "<=>", "+-", "*/%"};
  private static final int LONGEST = 40, DEEPEST = 7;

  private final Random r;

  ModelTexts(Random r) {
    this.r = r;
  }

  String text() {
    StringBuilder text = new StringBuilder(either());
    for (int i = r.nextInt(3); i > 0; i--) {
      text.insert(0, either() + "?" + either() + ";");
    }
    text.append(r.nextInt(4) == 0 ? "?" + either() : "");
    return text.length() > LONGEST ? text.substring(0, LONGEST) : text.toString();
  }

  private String either() {
    return r.nextInt(3) > 0 ? LIKELY[r.nextInt(LIKELY.length)] : joined(0, 0);
  }

  private String joined(int level, int open) {
    if (level == LOOSEST_FIRST.length) {
      return operand(open);
    }
    String first = joined(level + 1, open);
    if (r.nextInt(4) > 0) {
      return first;
    }
    String signs = LOOSEST_FIRST[level];
    return first + signs.charAt(r.nextInt(signs.length())) + joined(level + 1, open);
  }

  /** One more sign may be open than the document allows. */
  private String operand(int open) {
    switch (r.nextInt(open < DEEPEST ? 12 : 7)) {
      case 0: return String.valueOf(r.nextInt(20));
      case 1: return String.valueOf(r.nextInt(r.nextInt(5) == 0 ? 12000 : 20));
      case 7: return "(" + joined(0, open + 1) + ")";
      case 8: case 9: return "!" + operand(open + 1);
      case 10: case 11: return "-" + operand(open + 1);
      default: return String.valueOf("rvenstpl".charAt(r.nextInt(8)));
    }
  }
}
