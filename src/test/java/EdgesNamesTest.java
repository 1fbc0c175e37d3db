import java.lang.reflect.Method;
import java.util.List;

/** That each promise has tests of its edges, to be found by its number. */
public final class EdgesNamesTest {
    private static final Due due = new Due("EdgesNamesTest");
    private static final List<Class<?>> ALL = List.of(Edges1PostsTest.class, Edges2WiresTest.class, Edges3ChartTest.class,
        Edges4FrontsTest.class, Edges5PrognosisTest.class, Edges6SheetsTest.class);

    public static void main(String[] args) {
        int[] counts = new int[41];
        for (Class<?> tests : ALL) {
            for (Method test : Edges.of(tests)) {
                int promise = Integer.parseInt(test.getName().substring(7, 9));
                due.holds(test.getName() + " names a promise", promise >= 1 && promise <= 40);
                counts[promise]++;
            }
        }
        for (int promise = 1; promise <= 40; promise++) {
            due.holds("promise " + promise + " has tests of its edges", counts[promise] > 0);
        }
        due.end();
    }
}
