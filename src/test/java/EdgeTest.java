/** Each sentence of the document that names a boundary case, in a test of its own that names it. */
public final class EdgeTest {
  private EdgeTest() {}

  public static void main(String[] args) throws Exception {
    Sentences s = new Sentences();
    MemberEdges.tell(s);
    RuleEdges.tell(s);
    PowerEdges.tell(s);
    MotionEdges.tell(s);
    BlocEdges.tell(s);
    if (!s.hold()) System.exit(1);
  }
}
