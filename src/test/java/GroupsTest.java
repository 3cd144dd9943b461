/** Promises 9 and 10: carried, cheapest. */
public final class GroupsTest {
    public static void main(String[] args) {
        carriedRoundedDown();
        carriedOfAllFloors();
        carriedWrong();
        cheapestOfOneType();
        cheapestOfEqualCost();
        moreCarsMayCostLess();
        cheapestOfNobody();
        cheapestWrong();
        Check.end();
    }

    private static void carriedRoundedDown() {
        RoundTrips x = new RoundTrips();
        x.floor(1, 11);
        x.type(1, 1, 0, 0, 1);
        // The trip has 22 seconds; only the whole group's number is rounded: 300 / 22, 600 / 22, ..
        int[] due = {13, 27, 40, 54, 68, 81};
        for (int cars = 1; cars <= 6; cars++) {
            int n = cars;
            Check.answers("carried(" + n + ", 0)", () -> x.carried(n, 0), due[n - 1]);
        }
        RoundTrips even = new RoundTrips();
        even.floor(200, 10);
        even.type(5, 100, 0, 0, 1);
        even.type(1, 1, 0, 0, 1);
        Check.answers("the most there is", () -> even.carried(6, 0), 45000);
        Check.answers("a whole number stays", () -> even.carried(1, 1), 15);
    }

    private static void carriedOfAllFloors() {
        RoundTrips x = new RoundTrips();
        x.floor(1, 10);
        x.type(2, 1, 0, 0, 1);
        Check.answers("one floor", () -> x.carried(1, 0), 30);
        x.floor(1, 20);
        // HIGHEST is 25 now.
        Check.answers("two floors", () -> x.carried(1, 0), 12);
        x.floor(0, 100);
        Check.answers("an empty floor above", () -> x.carried(1, 0), 12);
        x.persons(1, 0);
        x.persons(2, 0);
        Check.answers("nobody", () -> x.carried(6, 0), 0);
    }

    private static void carriedWrong() {
        RoundTrips x = new RoundTrips();
        Check.illegalArgument("no type, no floor", () -> x.carried(1, 0));
        x.type(1, 1, 0, 0, 1);
        Check.illegalState("no floor", () -> x.carried(1, 0));
        Check.illegalArgument("no cars comes before no floor", () -> x.carried(0, 0));
        x.floor(1, 10);
        int[] wrongCars = {Integer.MIN_VALUE, -1, 0, 7, Integer.MAX_VALUE};
        for (int cars : wrongCars) {
            Check.illegalArgument("carried(" + cars + ", 0)", () -> x.carried(cars, 0));
        }
        int[] noTypes = {Integer.MIN_VALUE, -1, 1, 5, 6, Integer.MAX_VALUE};
        for (int type : noTypes) {
            Check.illegalArgument("carried(1, " + type + ")", () -> x.carried(1, type));
        }
    }

    private static void cheapestOfOneType() {
        RoundTrips x = new RoundTrips();
        x.floor(1, 10);
        x.type(1, 1, 0, 0, 100000);
        Check.answers("15 by one", () -> x.cheapest(15), 1);
        Check.answers("16 by two", () -> x.cheapest(16), 2);
        Check.answers("0 by one, not by none", () -> x.cheapest(0), 1);
        Check.answers("90 by six", () -> x.cheapest(90), 6);
        Check.answers("91 by none", () -> x.cheapest(91), RoundTrips.NONE);
        Check.answers("very many by none", () -> x.cheapest(Integer.MAX_VALUE), RoundTrips.NONE);
    }

    private static void cheapestOfEqualCost() {
        RoundTrips x = new RoundTrips();
        x.floor(1, 10);
        x.type(1, 1, 0, 0, 1);
        x.type(1, 2, 0, 0, 2);
        x.type(1, 2, 0, 0, 2);
        x.type(1, 3, 0, 0, 3);
        Check.answers("15: the cheapest type", () -> x.cheapest(15), 1);
        Check.answers("30: fewest cars, then the least type", () -> x.cheapest(30), 11);
        Check.answers("45: fewest cars", () -> x.cheapest(45), 31);
        Check.answers("60: two of 2 cents, before four of 1", () -> x.cheapest(60), 12);
        Check.answers("75: five of 1 cent", () -> x.cheapest(75), 5);
        Check.answers("90: two of 3 cents", () -> x.cheapest(90), 32);
        Check.answers("91: three of 3 cents cost more than four of 2", () -> x.cheapest(91), 14);
    }

    private static void moreCarsMayCostLess() {
        RoundTrips x = new RoundTrips();
        x.floor(1, 10);
        x.type(1, 6, 0, 0, 7);
        x.type(1, 1, 0, 0, 1);
        Check.answers("six cheap cars", () -> x.cheapest(90), 16);
        Check.answers("beyond the cheap cars", () -> x.cheapest(91), 2);
    }

    private static void cheapestOfNobody() {
        RoundTrips x = new RoundTrips();
        x.floor(0, 10);
        Check.answers("no type", () -> x.cheapest(0), RoundTrips.NONE);
        x.type(1, 1, 0, 0, 5);
        x.type(1, 1, 0, 0, 4);
        Check.answers("0 are carried by the cheapest", () -> x.cheapest(0), 11);
        Check.answers("1 is carried by none", () -> x.cheapest(1), RoundTrips.NONE);
    }

    private static void cheapestWrong() {
        RoundTrips x = new RoundTrips();
        Check.illegalState("no floor", () -> x.cheapest(0));
        Check.illegalArgument("below 0 comes before no floor", () -> x.cheapest(-1));
        x.type(1, 1, 0, 0, 1);
        Check.illegalState("no floor, a type", () -> x.cheapest(5));
        x.floor(1, 10);
        Check.illegalArgument("below 0", () -> x.cheapest(-1));
        Check.illegalArgument("far below 0", () -> x.cheapest(Integer.MIN_VALUE));
    }
}
