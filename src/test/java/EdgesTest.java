/** The sentences of each promise, each with a test of its own: least and greatest arguments, those beyond, refusals. */
public final class EdgesTest {
    private EdgesTest() {
    }

    public static void main(String[] args) {
        Checks c = new Checks("EdgesTest");
        new FieldEdges(c).all();
        new WayEdges(c).all();
        new PlanEdges(c).all();
        new SpeedEdges(c).all();
        for (int promise = 1; promise <= 26; promise++) {
            c.allQuoted(String.valueOf(promise));
        }
        c.end();
    }
}
