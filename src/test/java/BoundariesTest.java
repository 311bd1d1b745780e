/** The boundary cases of all promises: too small, too large, empty, full, what wraps, and what is refused. */
public final class BoundariesTest {
  public static void main(String[] args) {
    TableEdges.run();
    LawEdges.run();
    MeetingEdges.run();
    ThoughtEdges.run();
    ChangesEdges.run();
    ShelvesEdges.run();
    RefusalEdges.run();
    Due.eachPromiseWasNamed();
    Due.end();
  }
}
