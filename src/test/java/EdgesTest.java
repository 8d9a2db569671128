/** Every sentence of the document that names a boundary case, by tests called by the promise and the case. */
public final class EdgesTest {
    private static final Class<?>[] TESTS = {EdgesOfPeople.class, EdgesOfTexts.class, EdgesOfFaults.class,
        EdgesOfChairs.class, EdgesOfEvenings.class, EdgesOfMinutes.class, EdgesOfBetter.class, EdgesOfKeepers.class,
        EdgesOfTold.class, EdgesOfLots.class, EdgesOfSheets.class};

    public static void main(String[] args) {
        int[] perPromise = new int[100];
        for (Class<?> tests : TESTS) Edges.run(tests, perPromise);
        Check.named("all promises");
        int tests = 0;
        for (int p = 1; p <= 39; p++) {
            Check.holds("promise " + p + " has a test of its edges", perPromise[p] > 0);
            tests += perPromise[p];
        }
        System.out.println(tests + " tests of edges");
        Check.end();
    }
}
