/** The second model's law: a text, looked through by a machine with a stack, and worked out anew for each wish. */
final class ModelLaw {
  private static final String NAMES = "rvenstpl";
  private static final String[] LOOSEST_FIRST = {"|", "&", "<=>", "+-", "*/%"};
  private static final int OPEN = 6, DIGITS = 4;

  private final String text;
  // What is open now, as its signs; and for the line and each ( in it whether a comparison stands there already.
  private final StringBuilder open = new StringBuilder();
  private final StringBuilder compared = new StringBuilder("n");
  private boolean wantsOperand = true;
  private boolean asked = false;
  private int digits = 0;

  private ModelLaw(String text) {
    this.text = text;
  }

  /** The place of the first byte with which no text goes on, the length if it ends too early, or -1. */
  static int fault(String text) {
    ModelLaw machine = new ModelLaw(text);
    for (int i = 0; i < text.length(); i++) {
      if (!machine.goesOn(text.charAt(i))) {
        return i;
      }
    }
    return machine.wantsOperand || machine.open.length() > 0 ? text.length() : -1;
  }

  private boolean goesOn(char sign) {
    return wantsOperand ? beginsOperand(sign) : goesBehindOperand(sign);
  }

  private boolean beginsOperand(char sign) {
    if (sign == '(' || sign == '!' || sign == '-') {
      open.append(sign);
      compared.append(sign == '(' ? "n" : "");
      return open.length() <= OPEN;
    }
    boolean number = sign >= '0' && sign <= '9';
    digits = number ? 1 : DIGITS;
    endOperand();
    return number || NAMES.indexOf(sign) >= 0;
  }

  private void endOperand() {
    wantsOperand = false;
    while (open.length() > 0 && open.charAt(open.length() - 1) != '(') {
      open.setLength(open.length() - 1);
    }
  }

  private boolean goesBehindOperand(char sign) {
    if (sign >= '0' && sign <= '9') {
      digits++;
      return digits <= DIGITS;
    }
    digits = DIGITS;
    int level = compared.length() - 1;
    switch (sign) {
      case ')':
        return closes(level);
      case '|': case '&':
        return operandAgain(level, 'n');
      case '<': case '=': case '>':
        return compared.charAt(level) == 'n' && operandAgain(level, 'y');
      case '+': case '-': case '*': case '/': case '%':
        return operandAgain(level, compared.charAt(level));
      case '?': case ';':
        boolean twice = asked && sign == '?';
        asked = sign == '?';
        return level == 0 && !twice && operandAgain(0, 'n');
      default:
        return false;
    }
  }

  private boolean closes(int level) {
    if (level == 0) {
      return false;
    }
    open.setLength(open.length() - 1);
    compared.setLength(level);
    endOperand();
    return true;
  }

  private boolean operandAgain(int level, char comparedThere) {
    compared.setCharAt(level, comparedThere);
    wantsOperand = true;
    return true;
  }

  /** The names' values stand in the order r v e n s t p l. */
  static int wish(String law, int[] names) {
    if (law.isEmpty()) {
      return 10 * names[3] + names[2] + names[1] - 5 * names[4];
    }
    for (String line : law.split(";")) {
      int mark = line.indexOf('?');
      if (mark < 0) {
        return value(line, names);
      }
      if (value(line.substring(0, mark), names) != 0) {
        return value(line.substring(mark + 1), names);
      }
    }
    return 0;
  }

  private static int value(String text, int[] names) {
    for (String signs : LOOSEST_FIRST) {
      int at = lastOutside(text, signs);
      if (at >= 0) {
        return joined(text.charAt(at), value(text.substring(0, at), names), value(text.substring(at + 1), names));
      }
    }
    char first = text.charAt(0);
    switch (first) {
      case '(': return value(text.substring(1, text.length() - 1), names);
      case '!': return value(text.substring(1), names) == 0 ? 1 : 0;
      case '-': return -value(text.substring(1), names);
      default: return Character.isDigit(first) ? Integer.parseInt(text) : names[NAMES.indexOf(first)];
    }
  }

  /** The last of these signs between two operands that stands in no ( ), or -1. */
  private static int lastOutside(String text, String signs) {
    int depth = 0;
    for (int i = text.length() - 1; i > 0; i--) {
      char sign = text.charAt(i);
      char before = text.charAt(i - 1);
      depth += sign == ')' ? 1 : sign == '(' ? -1 : 0;
      if (depth == 0 && signs.indexOf(sign) >= 0 && (before == ')' || Character.isLetterOrDigit(before))) {
        return i;
      }
    }
    return -1;
  }

  private static int joined(char sign, int a, int b) {
    switch (sign) {
      case '|': return a != 0 || b != 0 ? 1 : 0;
      case '&': return a != 0 && b != 0 ? 1 : 0;
      case '<': return a < b ? 1 : 0;
      case '=': return a == b ? 1 : 0;
      case '>': return a > b ? 1 : 0;
      case '+': return a + b;
      case '-': return a - b;
      case '*': return a * b;
      case '/': return b == 0 ? 0 : a / b;
      default: return b == 0 ? 0 : a % b;
    }
  }
}
