/** Promises 5 to 8: stops, highest, trip, compare. */
public final class OddsTest {
    public static void main(String[] args) {
        twoFloors();
        nobody();
        heightsAreFromTheGround();
        personsChangeTheOdds();
        comparisons();
        comparisonsOfNearTrips();
        greatestNumbers();
        wrongInputs();
        Check.end();
    }

    /** Four ways to fill a car of two: (1, 1), (1, 2), (2, 1), (2, 2). */
    private static void twoFloors() {
        RoundTrips x = new RoundTrips();
        x.floor(1, 10);
        x.floor(1, 20);
        x.type(2, 4, 3, 1, 1);
        x.type(2, 3, 3, 1, 1);
        x.type(1, 7, 2, 3, 1);
        Check.fraction("stops of two", part -> x.stops(0, 1, 2, part), 3, 2);
        Check.fraction("highest of two", part -> x.highest(0, 1, 2, part), 25, 1);
        Check.fraction("trip of two", part -> x.trip(0, 1, 2, part), 24, 1);
        Check.fraction("trip of two, slower", part -> x.trip(1, 1, 2, part), 169, 6);
        Check.fraction("stops of one", part -> x.stops(2, 1, 2, part), 1, 1);
        Check.fraction("highest of one", part -> x.highest(2, 1, 2, part), 20, 1);
        Check.fraction("trip of one", part -> x.trip(2, 1, 2, part), 110, 7);
        Check.fraction("stops on one floor", part -> x.stops(0, 2, 2, part), 1, 1);
        Check.fraction("trip to one floor", part -> x.trip(0, 2, 2, part), 25, 1);
    }

    private static void nobody() {
        RoundTrips x = new RoundTrips();
        x.floor(0, 10);
        x.floor(5, 10);
        x.floor(0, 10);
        x.type(5, 1, 30, 10, 1);
        x.type(1, 100, 0, 0, 1);
        Check.fraction("stops of nobody", part -> x.stops(0, 1, 1, part), 0, 1);
        Check.fraction("highest of nobody", part -> x.highest(0, 3, 3, part), 0, 1);
        Check.fraction("trip of nobody", part -> x.trip(0, 1, 1, part), 0, 1);
        Check.answers("trips of nobody are as long", () -> x.compare(0, 1, 3, 3), 0);
        Check.fraction("empty floors do not count", part -> x.stops(0, 1, 3, part), 1, 1);
        Check.fraction("an empty floor is not the highest", part -> x.highest(0, 1, 3, part), 20, 1);
        Check.fraction("the trip to the one floor", part -> x.trip(0, 1, 3, part), 40 + 60 + 100, 1);
        Check.fraction("without doors and people", part -> x.trip(1, 1, 3, part), 2, 5);
    }

    private static void heightsAreFromTheGround() {
        RoundTrips x = new RoundTrips();
        x.floor(7, 100);
        x.floor(1, 30);
        x.floor(2, 45);
        x.type(1, 1, 0, 0, 1);
        Check.fraction("floor 2 alone", part -> x.highest(0, 2, 2, part), 130, 1);
        Check.fraction("floors 2 and 3", part -> x.highest(0, 2, 3, part), 160, 1);
        Check.fraction("all floors", part -> x.highest(0, 1, 3, part), 118, 1);
    }

    private static void personsChangeTheOdds() {
        RoundTrips x = new RoundTrips();
        x.floor(1, 10);
        x.floor(1, 10);
        x.type(2, 1, 0, 0, 1);
        Check.fraction("alike", part -> x.stops(0, 1, 2, part), 3, 2);
        x.persons(1, 2);
        Check.fraction("two of three", part -> x.stops(0, 1, 2, part), 13, 9);
        x.persons(2, 0);
        Check.fraction("all at one", part -> x.stops(0, 1, 2, part), 1, 1);
        Check.fraction("the highest that has some", part -> x.highest(0, 1, 2, part), 10, 1);
        x.floor(2, 10);
        Check.fraction("a new floor", part -> x.stops(0, 1, 3, part), 3, 2);
    }

    private static void comparisons() {
        RoundTrips x = new RoundTrips();
        x.floor(1, 10);
        x.floor(1, 20);
        x.type(2, 4, 3, 1, 1);
        x.type(2, 10, 6, 1, 900);
        x.type(1, 10, 9, 1, 5);
        x.type(2, 3, 3, 1, 1);
        x.type(2, 5, 3, 1, 1);
        for (int type = 0; type < 3; type++) {
            for (int other = 0; other < 3; other++) {
                int a = type;
                int b = other;
                Check.answers("all of 24 seconds: " + a + ", " + b, () -> x.compare(a, b, 1, 2), 0);
            }
        }
        Check.answers("a slower one is longer", () -> x.compare(3, 0, 1, 2), 1);
        Check.answers("than a slower one is shorter", () -> x.compare(0, 3, 1, 2), -1);
        Check.answers("a faster one is shorter", () -> x.compare(4, 2, 1, 2), -1);
        Check.answers("than a faster one is longer", () -> x.compare(2, 4, 1, 2), 1);
        x.type(2, 3, 3, 0, 1);
        Check.answers("24 and a sixth is longer", () -> x.compare(5, 0, 1, 2), 1);
        Check.answers("than 24 and a sixth is shorter", () -> x.compare(0, 5, 1, 2), -1);
        Check.answers("another zone, another order", () -> x.compare(0, 1, 1, 1), -1);
    }

    /** Small numbers bring many trips of the same whole seconds, and many that are as long. */
    private static void comparisonsOfNearTrips() {
        int next = 0;
        for (int house = 0; house < 300; house++) {
            RoundTrips x = new RoundTrips();
            Model model = new Model();
            for (int floor = 0; floor < 2; floor++) {
                int persons = 1 + (house >> floor & 1);
                x.floor(persons, 10);
                model.floor(persons, 10);
            }
            for (int type = 0; type < 6; type++) {
                next = (next * 61 + 17) % 1009;
                int room = 1 + next % 3;
                int speed = 7 + next % 11;
                int doors = next % 4;
                x.type(room, speed, doors, 0, 1);
                model.type(room, speed, doors, 0, 1);
            }
            for (int pair = 0; pair < 36; pair++) {
                int type = pair / 6;
                int other = pair % 6;
                Check.answers("near: house " + house + " compare(" + type + ", " + other + ", 1, 2)",
                        () -> x.compare(type, other, 1, 2), model.compare(type, other, 1, 2));
            }
        }
    }

    /** Fractions of the greatest parts, all zones and pairs of types, with the model. */
    private static void greatestNumbers() {
        RoundTrips x = new RoundTrips();
        Model model = new Model();
        int[] persons = {1, 17, 13, 19, 11, 23, 29, 31, 3, 7, 2, 43};
        for (int i = 0; i < persons.length; i++) {
            x.floor(persons[i], 100 - i % 3);
            model.floor(persons[i], 100 - i % 3);
        }
        int[][] types = {
            {5, 97, 30, 10, 1}, {5, 100, 30, 10, 1}, {5, 99, 30, 10, 1}, {5, 1, 29, 10, 1}, {4, 97, 30, 10, 1}};
        for (int[] t : types) {
            x.type(t[0], t[1], t[2], t[3], t[4]);
            model.type(t[0], t[1], t[2], t[3], t[4]);
        }
        int[][] zones = {{1, 12}, {2, 12}, {1, 9}, {4, 8}};
        for (int[] zone : zones) {
            int from = zone[0];
            int to = zone[1];
            for (int type = 0; type < types.length; type++) {
                int t = type;
                String name = "(" + t + ", " + from + ", " + to + ")";
                Check.fraction("stops" + name, part -> x.stops(t, from, to, part),
                        model.stops(t, from, to, 0), model.stops(t, from, to, 1));
                Check.fraction("highest" + name, part -> x.highest(t, from, to, part),
                        model.highest(t, from, to, 0), model.highest(t, from, to, 1));
                Check.fraction("trip" + name, part -> x.trip(t, from, to, part),
                        model.trip(t, from, to, 0), model.trip(t, from, to, 1));
                for (int other = 0; other < types.length; other++) {
                    int o = other;
                    Check.answers("compare" + name + " with " + o,
                            () -> x.compare(t, o, from, to), model.compare(t, o, from, to));
                }
            }
        }
    }

    private static void wrongInputs() {
        RoundTrips x = new RoundTrips();
        x.floor(1, 10);
        x.floor(1, 10);
        x.floor(0, 10);
        x.type(2, 1, 1, 1, 1);
        x.type(2, 1, 1, 1, 1);
        int[] numbers = {Integer.MIN_VALUE, -1, 0, 1, 2, 3, 4, 6, 12, 13, Integer.MAX_VALUE};
        for (int type : numbers) {
            if (type < 0 || type > 1) {
                wrongZoneCalls(x, type, 1, 1, 0);
                Check.illegalArgument("compare(" + type + ", 0, 1, 1)", () -> x.compare(type, 0, 1, 1));
                Check.illegalArgument("compare(0, " + type + ", 1, 1)", () -> x.compare(0, type, 1, 1));
            }
        }
        for (int from : numbers) {
            for (int to : numbers) {
                if (from < 1 || to > 3 || to < from) {
                    wrongZoneCalls(x, 0, from, to, 0);
                    Check.illegalArgument("compare(0, 1, " + from + ", " + to + ")", () -> x.compare(0, 1, from, to));
                }
            }
        }
        for (int part : numbers) {
            if (part < 0 || part > 1) {
                wrongZoneCalls(x, 0, 1, 1, part);
                wrongZoneCalls(x, 0, 3, 3, part);
            }
        }
    }

    private static void wrongZoneCalls(RoundTrips x, int type, int from, int to, int part) {
        String args = "(" + type + ", " + from + ", " + to + ", " + part + ")";
        Check.illegalArgument("stops" + args, () -> x.stops(type, from, to, part));
        Check.illegalArgument("highest" + args, () -> x.highest(type, from, to, part));
        Check.illegalArgument("trip" + args, () -> x.trip(type, from, to, part));
    }
}
