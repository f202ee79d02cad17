/** Each sentence of the document that names a boundary case, with a test of its own; and what none quotes. */
public final class EdgesTest {
    public static void main(String[] args) {
        Check check = new Check("EdgesTest");
        new RefusalEdges(check).run();
        new TermsEdges(check).run();
        new ProgramEdges(check).run();
        new FactsEdges(check).run();
        new RoundsEdges(check).run();
        new CostsEdges(check).run();
        new SheetsEdges(check).run();
        check.tellUnquoted();
        check.end();
    }
}
