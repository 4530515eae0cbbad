/** The sentences under "Terms", each with a test of its own that stands at the edges it names. */
public final class TermsTest {
    private TermsTest() {
    }

    public static void main(String[] args) {
        Checks c = new Checks("TermsTest");
        new FieldTerms(c).all();
        new MoveTerms(c).all();
        new WordTerms(c).all();
        new PlanTerms(c).all();
        new SpeedTerms(c).all();
        new RefusalTerms(c).all();
        c.allQuoted("Terms", "Calls are as a programmer", "Ahead of the calls");
        c.end();
    }
}
