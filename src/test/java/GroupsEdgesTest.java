/** Promises 9 and 10, sentence by sentence: fewest and most cars, roundings, equal costs, refused calls. */
public final class GroupsEdgesTest {
    private static final int LEAST = Integer.MIN_VALUE;
    private static final int GREATEST = Integer.MAX_VALUE;

    public static void main(String[] args) {
        carsFromOneToSix();
        ofAllFloors();
        roundedDown();
        greatestNumbers();
        tripIsZero();
        carriedRefuses();
        carriedWithoutFloors();
        atLeastSoMany();
        carsTimesCents();
        tenTimesItsType();
        fewestCars();
        leastType();
        noneDoes();
        nobodyAtAll();
        personsBelowZero();
        cheapestWithoutFloors();
        Check.end();
    }

    private static void carsFromOneToSix() {
        Check.sentence("So many cars (1 .. 6) of a type CARRY");
        RoundTrips x = House.of(1);
        x.type(1, 1, 0, 0, 1);
        Check.answers("one car", () -> x.carried(1, 0), 15);
        Check.answers("six cars", () -> x.carried(6, 0), 90);
        int[] wrong = {0, 7, -1, LEAST, GREATEST};
        for (int cars : wrong) {
            Check.refusedArgument("carried(" + cars + ", 1)", House::small, house -> house.carried(cars, 1));
        }
    }

    private static void ofAllFloors() {
        Check.sentence("persons of all floors");
        RoundTrips x = House.of(0, 0, 0, 0, 0, 0, 0, 0, 0, 0, 0, 1);
        x.type(1, 1, 0, 0, 1);
        Check.answers("the highest floor counts", () -> x.carried(4, 0), 5);
        x.persons(1, 1);
        // The mean height is 65 now.
        Check.answers("the lowest floor counts", () -> x.carried(4, 0), 9);
        x.persons(12, 0);
        Check.answers("the lowest floor alone", () -> x.carried(4, 0), 60);
    }

    private static void roundedDown() {
        Check.sentence("rounded down");
        RoundTrips below = new RoundTrips();
        below.floor(1, 15);
        below.floor(7, 22);
        below.floor(3, 30);
        below.floor(7, 12);
        below.type(3, 13, 9, 2, 1);
        Check.answers("17.49999 by one car", () -> below.carried(1, 0), 17);
        Check.answers("34.99998 by two cars", () -> below.carried(2, 0), 34);
        Check.answers("69.99997 by four cars", () -> below.carried(4, 0), 69);
        RoundTrips above = new RoundTrips();
        above.floor(6, 15);
        above.floor(2, 10);
        above.floor(3, 38);
        above.type(4, 7, 0, 3, 1);
        Check.answers("31.000005 by one car", () -> above.carried(1, 0), 31);
        Check.answers("186.00003 by six cars", () -> above.carried(6, 0), 186);
        RoundTrips whole = House.of(3);
        whole.type(1, 10, 14, 0, 1);
        Check.answers("10 by one car", () -> whole.carried(1, 0), 10);
        Check.answers("60 by six cars", () -> whole.carried(6, 0), 60);
    }

    private static void greatestNumbers() {
        Check.sentence("300 * cars * P / TRIP persons of all floors, rounded down");
        RoundTrips fast = House.of(200);
        fast.type(5, 100, 0, 0, 1);
        Check.answers("the most that a group carries", () -> fast.carried(6, 0), 45000);
        RoundTrips tall = new RoundTrips();
        for (int floor = 1; floor <= 12; floor++) {
            tall.floor(floor < 12 ? 16 : 23, 100);
        }
        tall.type(5, 97, 30, 10, 1);
        tall.type(5, 1, 30, 10, 1);
        tall.type(5, 100, 0, 0, 1);
        // The trips are about 278.84, 2400.13 and 21.434 seconds, in fractions of the greatest parts.
        Check.answers("six of a fast type with doors", () -> tall.carried(6, 0), 32);
        Check.answers("one of the slowest type", () -> tall.carried(1, 1), 0);
        Check.answers("two of the slowest type", () -> tall.carried(2, 1), 1);
        Check.answers("six of the fastest type", () -> tall.carried(6, 2), 419);
    }

    private static void tripIsZero() {
        Check.sentence("0 when TRIP is 0");
        RoundTrips x = House.empty(12);
        x.type(5, 100, 30, 10, 1);
        x.type(1, 1, 0, 0, 1);
        for (int cars = 1; cars <= 6; cars++) {
            int n = cars;
            Check.answers("carried(" + n + ", 0)", () -> x.carried(n, 0), 0);
            Check.answers("carried(" + n + ", 1)", () -> x.carried(n, 1), 0);
        }
        x.persons(12, 1);
        Check.answers("somebody has come", () -> x.carried(4, 1), 5);
    }

    private static void carriedRefuses() {
        Check.sentence("How many persons so many cars of a type CARRY in five minutes. Illegal argument");
        int[] wrong = {-1, 2, 5, 6, LEAST, GREATEST};
        for (int type : wrong) {
            Check.refusedArgument("carried(1, " + type + ")", House::small, x -> x.carried(1, type));
        }
        Check.answers("the 6th of six", () -> House.full().carried(1, 5), 8);
        Check.illegalArgument("the 7th of six", () -> House.full().carried(1, 6));
        Check.illegalArgument("no type", () -> House.of(5).carried(1, 0));
    }

    private static void carriedWithoutFloors() {
        Check.sentence("Illegal argument; illegal state: there is no floor.");
        Check.refusedState("no floor", House::withoutFloors, x -> x.carried(1, 0));
        Check.refusedState("no floor, six cars", House::withoutFloors, x -> x.carried(6, 0));
        Check.refusedArgument("no floor, no cars", House::withoutFloors, x -> x.carried(0, 0));
        Check.refusedArgument("no floor, seven cars", House::withoutFloors, x -> x.carried(7, 0));
        Check.refusedArgument("no floor, no such type", House::withoutFloors, x -> x.carried(1, 1));
        Check.refusedArgument("no floor, no type", RoundTrips::new, x -> x.carried(1, 0));
        RoundTrips x = House.withoutFloors();
        Check.illegalState("no floor yet", () -> x.carried(1, 0));
        x.floor(0, 10);
        Check.answers("a floor of nobody is a floor", () -> x.carried(1, 0), 0);
    }

    private static void atLeastSoMany() {
        Check.sentence("that carries at least so many persons");
        RoundTrips x = House.of(1);
        x.type(1, 1, 0, 0, 1);
        for (int cars = 1; cars <= 6; cars++) {
            int n = cars;
            Check.answers("as many as " + n + " carry", () -> x.cheapest(15 * n), n);
            Check.answers("one fewer", () -> x.cheapest(15 * n - 1), n);
            Check.answers("one more", () -> x.cheapest(15 * n + 1), n < 6 ? n + 1 : RoundTrips.NONE);
        }
        Check.answers("0 by one car", () -> x.cheapest(0), 1);
        RoundTrips rounded = House.of(1);
        rounded.type(1, 3, 0, 4, 1);
        // The trip takes 44 / 3 seconds: one car carries 20 of 20.45, two carry 40 of 40.9, three 61 of 61.36.
        Check.answers("40 by two cars", () -> rounded.cheapest(40), 2);
        Check.answers("41 not by two cars", () -> rounded.cheapest(41), 3);
        Check.answers("61 by three cars, not 60", () -> rounded.cheapest(61), 3);
    }

    private static void carsTimesCents() {
        Check.sentence("The cheapest group (cars times cents)");
        RoundTrips x = House.of(1);
        x.type(1, 6, 0, 0, 61);
        x.type(1, 1, 0, 0, 10);
        // One of type 0 carries 90 for 61 cents, six of type 1 do for 60.
        Check.answers("90: six for 60 cents", () -> x.cheapest(90), 16);
        Check.answers("91: two for 122 cents", () -> x.cheapest(91), 2);
        RoundTrips dear = House.of(1);
        dear.type(1, 1, 0, 0, 100000);
        dear.type(1, 1, 0, 0, 99999);
        Check.answers("six for 599994 cents", () -> dear.cheapest(90), 16);
    }

    private static void tenTimesItsType() {
        Check.sentence("10 times its type and its cars");
        RoundTrips x = House.of(1);
        for (int type = 0; type < 6; type++) {
            x.type(1, 1 + type, 0, 0, 1 + 1000 * type);
        }
        // Six cars of type t carry 90 * (t + 1), and no group of a lower type carries more than 90 * t.
        Check.answers("one of type 0", () -> x.cheapest(1), 1);
        for (int type = 0; type < 6; type++) {
            int t = type;
            Check.answers("six of type " + t, () -> x.cheapest(90 * (t + 1)), 10 * t + 6);
        }
        Check.answers("six of type 5 carry no more", () -> x.cheapest(541), RoundTrips.NONE);
    }

    private static void fewestCars() {
        Check.sentence("of several the one of fewest cars");
        RoundTrips x = House.of(1);
        x.type(1, 1, 0, 0, 10);
        x.type(1, 3, 0, 0, 30);
        x.type(1, 2, 0, 0, 20);
        // So many cents carry the same by each type.
        Check.answers("30 cents: one of type 1, three of type 0", () -> x.cheapest(45), 11);
        Check.answers("20 cents: one of type 2, two of type 0", () -> x.cheapest(30), 21);
        Check.answers("60 cents: two, three or six", () -> x.cheapest(90), 12);
        Check.answers("40 cents: two of type 2, four of type 0", () -> x.cheapest(60), 22);
        Check.answers("50 cents: five of type 0 alone", () -> x.cheapest(75), 5);
    }

    private static void leastType() {
        Check.sentence("of these of the least type");
        RoundTrips x = House.of(1);
        x.type(1, 1, 0, 0, 10);
        x.type(1, 2, 0, 0, 20);
        x.type(1, 4, 0, 0, 20);
        x.type(1, 2, 0, 0, 20);
        Check.answers("30 by one of type 1, 2 or 3", () -> x.cheapest(30), 11);
        Check.answers("60 by one of type 2", () -> x.cheapest(60), 21);
        RoundTrips alike = House.of(1);
        for (int type = 0; type < 6; type++) {
            alike.type(1, 1, 0, 0, 10);
        }
        Check.answers("six alike, one car", () -> alike.cheapest(15), 1);
        Check.answers("six alike, six cars", () -> alike.cheapest(90), 6);
    }

    private static void noneDoes() {
        Check.sentence("NONE if none does");
        RoundTrips fast = House.of(200);
        fast.type(5, 100, 0, 0, 100000);
        Check.answers("45000", () -> fast.cheapest(45000), 6);
        Check.answers("45001", () -> fast.cheapest(45001), RoundTrips.NONE);
        Check.answers("the greatest number", () -> fast.cheapest(GREATEST), RoundTrips.NONE);
        Check.answers("no type", () -> House.of(5).cheapest(0), RoundTrips.NONE);
        Check.answers("no type, the greatest number", () -> House.of(5).cheapest(GREATEST), RoundTrips.NONE);
    }

    private static void nobodyAtAll() {
        Check.sentence("0 when TRIP is 0");
        RoundTrips x = House.empty(3);
        x.type(1, 1, 0, 0, 9);
        x.type(5, 100, 30, 10, 8);
        x.type(5, 100, 30, 10, 8);
        Check.answers("0 by one of the cheapest", () -> x.cheapest(0), 11);
        Check.answers("1 by none", () -> x.cheapest(1), RoundTrips.NONE);
    }

    private static void personsBelowZero() {
        Check.sentence("Illegal argument: persons is below 0");
        int[] wrong = {-1, -201, LEAST};
        for (int persons : wrong) {
            Check.refusedArgument("cheapest(" + persons + ")", House::small, x -> x.cheapest(persons));
            Check.refusedArgument("no type: cheapest(" + persons + ")", () -> House.of(5), x -> x.cheapest(persons));
        }
        RoundTrips fast = House.of(200);
        fast.type(1, 100, 0, 0, 1);
        // More may be carried than there are persons.
        Check.answers("0 is allowed", () -> fast.cheapest(0), 1);
        Check.answers("201 is allowed", () -> fast.cheapest(201), 1);
        Check.answers("1501 is allowed", () -> fast.cheapest(1501), 2);
    }

    private static void cheapestWithoutFloors() {
        Check.sentence("Illegal argument: persons is below 0; illegal state: there is no floor.");
        Check.refusedState("no floor", House::withoutFloors, x -> x.cheapest(0));
        Check.refusedState("no floor, the greatest number", House::withoutFloors, x -> x.cheapest(GREATEST));
        Check.refusedState("no floor, no type", RoundTrips::new, x -> x.cheapest(0));
        Check.refusedArgument("no floor, below 0", House::withoutFloors, x -> x.cheapest(-1));
        Check.refusedArgument("no floor, no type, below 0", RoundTrips::new, x -> x.cheapest(LEAST));
        RoundTrips x = new RoundTrips();
        Check.illegalState("no floor yet", () -> x.cheapest(0));
        x.floor(0, 10);
        Check.answers("a floor and no type", () -> x.cheapest(0), RoundTrips.NONE);
    }
}
