/** The example of README.md answers what its comments say. */
public final class ReadmeTest {
    public static void main(String[] args) {
        RoundTrips house = new RoundTrips();
        Check.answers("floor 1", () -> house.floor(10, 30), 1);
        Check.answers("floor 2", () -> house.floor(20, 30), 2);
        Check.answers("floor 3", () -> house.floor(30, 35), 3);
        Check.answers("persons", () -> house.persons(2, 25), 20);
        Check.answers("type 0", () -> house.type(3, 20, 4, 1, 1000), 0);
        Check.answers("type 1", () -> house.type(2, 15, 6, 2, 700), 1);
        Check.fraction("trip", part -> house.trip(0, 1, 3, part), 59237, 2197);
        Check.answers("compare", () -> house.compare(0, 1, 1, 3), -1);
        Check.answers("carried", () -> house.carried(2, 0), 66);
        Check.answers("cheapest", () -> house.cheapest(15), 11);
        Check.answers("split", () -> house.split(0, 2, 0), 2);
        Check.answers("out", () -> house.out(3), 22);
        Check.answers("crowd", () -> house.crowd(3, 2), 25);
        Check.end();
    }
}
