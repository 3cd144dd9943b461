/** Promises 1 to 4: a new object, floor, persons, type. */
public final class BuildingTest {
    public static void main(String[] args) {
        newObject();
        floors();
        floorBounds();
        allTogether();
        personsOfFloors();
        types();
        typeBounds();
        throwingChangesNothing();
        Check.end();
    }

    private static void newObject() {
        RoundTrips x = new RoundTrips();
        Check.illegalArgument("new: persons(1, 0)", () -> x.persons(1, 0));
        Check.illegalArgument("new: there(1, 1, 0)", () -> x.there(1, 1, 0));
        Check.illegalArgument("new: carried(1, 0)", () -> x.carried(1, 0));
        Check.illegalState("new: cheapest(0)", () -> x.cheapest(0));
        Check.answers("new: out(1)", () -> x.out(1), 0);
        Check.answers("new: first floor", () -> x.floor(0, 10), 1);
        Check.answers("new: cheapest(0) without types", () -> x.cheapest(0), RoundTrips.NONE);
        Check.answers("new: first type", () -> x.type(1, 1, 0, 0, 1), 0);

        RoundTrips another = new RoundTrips();
        Check.answers("another object has floors of its own", () -> another.floor(3, 10), 1);
        Check.illegalArgument("another object has types of its own", () -> another.trip(0, 1, 1, 0));
    }

    private static void floors() {
        RoundTrips x = new RoundTrips();
        for (int number = 1; number <= 12; number++) {
            int due = number;
            Check.answers("floor " + due, () -> x.floor(1, 10), due);
        }
        Check.illegalState("a 13th floor", () -> x.floor(0, 10));
        Check.illegalArgument("a 13th floor of a wrong storey", () -> x.floor(0, 9));
        Check.illegalArgument("a 13th floor of too many", () -> x.floor(201, 10));
        Check.answers("still 12 persons", () -> x.there(1, 12, 0), 1);
    }

    private static void floorBounds() {
        RoundTrips x = new RoundTrips();
        int[] wrongPersons = {-1, 201, Integer.MIN_VALUE, Integer.MAX_VALUE};
        for (int persons : wrongPersons) {
            Check.illegalArgument("floor(" + persons + ", 10)", () -> x.floor(persons, 10));
        }
        int[] wrongStoreys = {9, 101, 0, -10, Integer.MIN_VALUE, Integer.MAX_VALUE};
        for (int storey : wrongStoreys) {
            Check.illegalArgument("floor(1, " + storey + ")", () -> x.floor(1, storey));
        }
        Check.answers("floor(200, 10)", () -> x.floor(200, 10), 1);
        Check.answers("floor(0, 100)", () -> x.floor(0, 100), 2);
        Check.illegalArgument("wrong storey comes before too many together", () -> x.floor(1, 9));
    }

    private static void allTogether() {
        RoundTrips x = new RoundTrips();
        Check.answers("floor(150, 30)", () -> x.floor(150, 30), 1);
        Check.illegalState("201 together", () -> x.floor(51, 30));
        Check.answers("200 together", () -> x.floor(50, 30), 2);
        Check.illegalState("201 together again", () -> x.floor(1, 30));
        Check.answers("nobody more", () -> x.floor(0, 30), 3);
    }

    private static void personsOfFloors() {
        RoundTrips x = new RoundTrips();
        x.floor(10, 30);
        x.floor(20, 30);
        Check.answers("persons(1, 180)", () -> x.persons(1, 180), 10);
        Check.answers("who was set is there", () -> x.there(1, 1, 0), 180);
        Check.illegalState("persons(1, 181)", () -> x.persons(1, 181));
        Check.illegalState("persons(2, 21)", () -> x.persons(2, 21));
        Check.answers("persons(2, 20)", () -> x.persons(2, 20), 20);
        Check.answers("persons(1, 0)", () -> x.persons(1, 0), 180);
        Check.answers("persons(2, 200)", () -> x.persons(2, 200), 20);
        Check.illegalState("persons(1, 1)", () -> x.persons(1, 1));
        Check.answers("persons(2, 0)", () -> x.persons(2, 0), 200);
        Check.answers("the sum shrinks too", () -> x.floor(200, 30), 3);

        int[] noFloors = {0, -1, 4, 12, 13, Integer.MIN_VALUE, Integer.MAX_VALUE};
        for (int floor : noFloors) {
            Check.illegalArgument("persons(" + floor + ", 0)", () -> x.persons(floor, 0));
        }
        int[] wrongPersons = {-1, 201, Integer.MIN_VALUE, Integer.MAX_VALUE};
        for (int n : wrongPersons) {
            Check.illegalArgument("persons(1, " + n + ")", () -> x.persons(1, n));
        }
    }

    private static void types() {
        RoundTrips x = new RoundTrips();
        for (int number = 0; number < 6; number++) {
            int due = number;
            Check.answers("type " + due, () -> x.type(1 + due % 5, 10, 1, 1, 1), due);
        }
        Check.illegalState("a 7th type", () -> x.type(1, 10, 1, 1, 1));
        Check.illegalArgument("a 7th type without room", () -> x.type(0, 10, 1, 1, 1));
    }

    private static void typeBounds() {
        RoundTrips x = new RoundTrips();
        int[] least = {1, 1, 0, 0, 1};
        int[] most = {5, 100, 30, 10, 100000};
        for (int place = 0; place < 5; place++) {
            int[] wrong = {least[place] - 1, most[place] + 1, Integer.MIN_VALUE, Integer.MAX_VALUE};
            for (int number : wrong) {
                int[] a = most.clone();
                a[place] = number;
                Check.illegalArgument("type with " + number + " in place " + place,
                        () -> x.type(a[0], a[1], a[2], a[3], a[4]));
            }
        }
        Check.answers("the least type", () -> x.type(1, 1, 0, 0, 1), 0);
        Check.answers("the most type", () -> x.type(5, 100, 30, 10, 100000), 1);
    }

    private static void throwingChangesNothing() {
        RoundTrips x = new RoundTrips();
        x.floor(100, 30);
        x.floor(90, 40);
        Check.illegalState("floor(11, 50)", () -> x.floor(11, 50));
        Check.illegalArgument("floor(5, 5)", () -> x.floor(5, 5));
        Check.illegalState("persons(1, 111)", () -> x.persons(1, 111));
        Check.illegalArgument("persons(1, -1)", () -> x.persons(1, -1));
        Check.illegalArgument("type(9, 1, 1, 1, 1)", () -> x.type(9, 1, 1, 1, 1));
        Check.answers("persons of floor 1 stayed", () -> x.there(1, 1, 0), 100);
        Check.illegalArgument("no floor came", () -> x.there(1, 3, 0));
        Check.answers("the sum stayed", () -> x.floor(10, 20), 3);
        Check.answers("no type came", () -> x.type(1, 1, 0, 0, 1), 0);
        Check.answers("the heights stayed", () -> x.highest(0, 3, 3, 0), 90);
    }
}
