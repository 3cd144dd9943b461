/** Promises 1 to 4, sentence by sentence: the last number that is allowed, the first that is not, refused calls. */
public final class BuildingEdgesTest {
    private static final int LEAST = Integer.MIN_VALUE;
    private static final int GREATEST = Integer.MAX_VALUE;

    public static void main(String[] args) {
        noFloors();
        noTypes();
        floorNumbers();
        personsOfANewFloor();
        allTogether();
        storeys();
        heights();
        thereAreTwelve();
        moreThan200Then();
        howManyItHad();
        noSuchFloor();
        personsOfAFloor();
        moreThan200BySetting();
        typeNumbers();
        rooms();
        speeds();
        doors();
        people();
        cents();
        thereAreSix();
        Check.end();
    }

    private static void noFloors() {
        Check.sentence("No floors, no types.");
        RoundTrips x = House.withoutFloors();
        Check.illegalArgument("floor 1's persons", () -> x.persons(1, 0));
        Check.illegalArgument("floor 1's stops", () -> x.stops(0, 1, 1, 0));
        Check.illegalArgument("floor 1's crowd", () -> x.crowd(1, 1));
        Check.illegalState("nothing to carry to", () -> x.carried(1, 0));
        Check.illegalState("nothing to split", () -> x.split(0, 1, 0));
        Check.answers("nobody goes out", () -> x.out(1), 0);
        Check.answers("the first floor is 1", () -> x.floor(0, 10), 1);
    }

    private static void noTypes() {
        Check.sentence("No floors, no types.");
        RoundTrips x = House.of(5);
        for (int type = 0; type < 6; type++) {
            int t = type;
            Check.illegalArgument("type " + t + "'s trip", () -> x.trip(t, 1, 1, 0));
            Check.illegalArgument("carried by type " + t, () -> x.carried(1, t));
            Check.illegalArgument("split for type " + t, () -> x.split(t, 1, 0));
        }
        Check.answers("no group", () -> x.cheapest(0), RoundTrips.NONE);
        Check.answers("the first type is 0", () -> x.type(1, 1, 0, 0, 1), 0);
    }

    private static void floorNumbers() {
        Check.sentence("FLOORS are 1, 2, .. 12, as they come, above the ground, 0");
        RoundTrips x = new RoundTrips();
        for (int number = 1; number <= 12; number++) {
            int n = number;
            Check.illegalArgument("floor " + n + " before it comes", () -> x.there(1, n, 0));
            Check.answers("floor " + n, () -> x.floor(n, 10), n);
            Check.answers("its persons are its own", () -> x.there(1, n, 0), n);
        }
        Check.illegalArgument("the ground has no persons", () -> x.persons(0, 0));
        Check.illegalArgument("nobody is counted at the ground", () -> x.there(1, 0, 0));
        Check.illegalArgument("no crowd is at the ground", () -> x.crowd(1, 0));
        Check.illegalArgument("there is no floor 13", () -> x.there(1, 13, 0));
    }

    private static void personsOfANewFloor() {
        Check.sentence("each has PERSONS (0 .. 200");
        Check.answers("0 persons", () -> House.of().floor(0, 10), 1);
        Check.answers("200 persons", () -> House.of().floor(200, 10), 1);
        Check.answers("200 persons are there", () -> House.of(200).there(1, 1, 0), 200);
        int[] wrong = {-1, 201, LEAST, GREATEST};
        for (int persons : wrong) {
            Check.refusedArgument("floor(" + persons + ", 10)", RoundTrips::new, x -> x.floor(persons, 10));
            Check.refusedArgument("small: floor(" + persons + ", 10)", House::small, x -> x.floor(persons, 10));
        }
    }

    private static void allTogether() {
        Check.sentence("all together 200 at most");
        Check.answers("199 and 1", () -> House.of(199).floor(1, 10), 2);
        Check.illegalState("199 and 2", () -> House.of(199).floor(2, 10));
        Check.answers("200 and 0", () -> House.of(200).floor(0, 10), 2);
        Check.illegalState("200 and 1", () -> House.of(200).floor(1, 10));
        Check.illegalState("1 and 200", () -> House.of(1).floor(200, 10));
        int[] eleven = {18, 18, 18, 18, 18, 18, 18, 18, 18, 18, 18};
        Check.answers("198 in eleven and 2", () -> House.of(eleven).floor(2, 10), 12);
        Check.illegalState("198 in eleven and 3", () -> House.of(eleven).floor(3, 10));
    }

    private static void storeys() {
        Check.sentence("a STOREY (10 .. 100 decimetres) below it");
        Check.answers("10 decimetres", () -> House.of().floor(1, 10), 1);
        Check.answers("100 decimetres", () -> House.of().floor(1, 100), 1);
        int[] wrong = {9, 101, 0, -10, LEAST, GREATEST};
        for (int storey : wrong) {
            Check.refusedArgument("floor(1, " + storey + ")", RoundTrips::new, x -> x.floor(1, storey));
            Check.refusedArgument("small: floor(1, " + storey + ")", House::small, x -> x.floor(1, storey));
        }
    }

    private static void heights() {
        Check.sentence("its HEIGHT is the sum of the storeys up to it");
        int[] storeys = {10, 100};
        for (int storey : storeys) {
            RoundTrips x = new RoundTrips();
            x.type(1, 1, 0, 0, 1);
            for (int floor = 1; floor <= 12; floor++) {
                int f = floor;
                x.floor(1, storey);
                Check.answers("storeys of " + storey + ", floor " + f, () -> x.highest(0, f, f, 0), f * storey);
            }
        }
    }

    private static void thereAreTwelve() {
        Check.sentence("illegal state: there are 12, or all have more than 200 persons together then");
        Check.answers("a 12th floor", () -> House.empty(11).floor(0, 10), 12);
        Check.refusedState("a 13th floor", () -> House.empty(12), x -> x.floor(0, 10));
        Check.refusedState("a 13th floor of 200", () -> House.empty(12), x -> x.floor(200, 100));
        Check.refusedState("a 13th floor and too many persons", House::full, x -> x.floor(1, 10));
    }

    private static void moreThan200Then() {
        Check.sentence("or all have more than 200 persons together then");
        Check.refusedState("a second floor of 1", () -> House.of(200), x -> x.floor(1, 10));
        Check.refusedState("a second floor of 101", () -> House.of(100), x -> x.floor(101, 10));
        Check.refusedState("a fourth floor of 141", House::small, x -> x.floor(141, 10));
        RoundTrips x = House.of(100);
        Check.illegalState("201", () -> x.floor(101, 10));
        Check.answers("200 behind a refused call", () -> x.floor(100, 10), 2);
        x.persons(1, 0);
        Check.answers("who went away leaves room", () -> x.floor(100, 10), 3);
        Check.illegalState("and for nobody more", () -> x.floor(1, 10));
    }

    private static void howManyItHad() {
        Check.sentence("A floor's persons: how many it had.");
        RoundTrips x = House.of(7, 9);
        Check.answers("as it came", () -> x.persons(1, 0), 7);
        Check.answers("0 as set", () -> x.persons(1, 191), 0);
        Check.answers("191 as set", () -> x.persons(1, 191), 191);
        Check.answers("the same again", () -> x.persons(1, 3), 191);
        Check.answers("the other floor's", () -> x.persons(2, 9), 9);
        Check.answers("the last one set is there", () -> x.there(1, 1, 0), 3);
    }

    private static void noSuchFloor() {
        Check.sentence("there is no such floor");
        int[] wrong = {0, -1, 4, 12, 13, LEAST, GREATEST};
        for (int floor : wrong) {
            Check.refusedArgument("persons(" + floor + ", 1)", House::small, x -> x.persons(floor, 1));
        }
        Check.refusedArgument("the 13th of twelve", House::full, x -> x.persons(13, 1));
        Check.refusedArgument("the first of none", RoundTrips::new, x -> x.persons(1, 1));
        Check.answers("the last of three", () -> House.small().persons(3, 1), 30);
        Check.answers("the last of twelve", () -> House.full().persons(12, 1), 35);
    }

    private static void personsOfAFloor() {
        Check.sentence("each has PERSONS (0 .. 200");
        Check.answers("0 persons", () -> House.of(5).persons(1, 0), 5);
        Check.answers("200 persons", () -> House.of(5).persons(1, 200), 5);
        int[] wrong = {-1, 201, LEAST, GREATEST};
        for (int n : wrong) {
            Check.refusedArgument("persons(2, " + n + ")", House::small, x -> x.persons(2, n));
        }
    }

    private static void moreThan200BySetting() {
        Check.sentence("illegal state: all have more than 200 together then");
        Check.answers("160 and 40", () -> House.small().persons(2, 160), 20);
        Check.refusedState("161 and 40", House::small, x -> x.persons(2, 161));
        Check.refusedState("200 and 40", House::small, x -> x.persons(2, 200));
        Check.refusedState("one more in a full house", House::full, x -> x.persons(1, 16));
        Check.answers("as many in a full house", () -> House.full().persons(1, 15), 15);
        Check.answers("one fewer in a full house", () -> House.full().persons(1, 14), 15);
        RoundTrips x = House.of(100, 100);
        Check.illegalState("101 and 100", () -> x.persons(1, 101));
        Check.answers("100 and 99", () -> x.persons(2, 99), 100);
        Check.answers("101 and 99", () -> x.persons(1, 101), 100);
        Check.illegalState("101 and 100 again", () -> x.persons(2, 100));
    }

    private static void typeNumbers() {
        Check.sentence("TYPES of cars are 0 .. 5, as they come");
        RoundTrips x = House.of(1);
        for (int number = 0; number <= 5; number++) {
            int n = number;
            Check.illegalArgument("type " + n + " before it comes", () -> x.trip(n, 1, 1, 0));
            Check.answers("type " + n, () -> x.type(1, 1, n, 0, 1), n);
            Check.answers("its doors are its own", () -> x.trip(n, 1, 1, 0), 20 + 2 * n);
        }
        Check.illegalArgument("there is no type 6", () -> x.trip(6, 1, 1, 0));
        Check.illegalArgument("there is no type -1", () -> x.trip(-1, 1, 1, 0));
    }

    private static void rooms() {
        Check.sentence("a ROOM (1 .. 5 persons)");
        RoundTrips x = House.of(1);
        x.type(1, 1, 0, 10, 1);
        x.type(5, 1, 0, 10, 1);
        Check.answers("room for 1", () -> x.trip(0, 1, 1, 0), 20 + 20);
        Check.answers("room for 5", () -> x.trip(1, 1, 1, 0), 20 + 100);
        wrongInPlace(0, 0, 6, -1, LEAST, GREATEST);
    }

    private static void speeds() {
        Check.sentence("a SPEED (1 .. 100 decimetres a second)");
        RoundTrips x = House.of(1);
        x.type(1, 1, 0, 0, 1);
        x.type(1, 100, 0, 0, 1);
        Check.fraction("1 a second", part -> x.trip(0, 1, 1, part), 20, 1);
        Check.fraction("100 a second", part -> x.trip(1, 1, 1, part), 1, 5);
        wrongInPlace(1, 0, 101, -1, LEAST, GREATEST);
    }

    private static void doors() {
        Check.sentence("DOORS (0 .. 30 seconds a stop)");
        RoundTrips x = House.of(1);
        x.type(1, 1, 0, 0, 1);
        x.type(1, 1, 30, 0, 1);
        Check.answers("0 a stop", () -> x.trip(0, 1, 1, 0), 20);
        Check.answers("30 a stop", () -> x.trip(1, 1, 1, 0), 20 + 60);
        wrongInPlace(2, -1, 31, LEAST, GREATEST);
    }

    private static void people() {
        Check.sentence("PEOPLE (0 .. 10 seconds each)");
        RoundTrips x = House.of(1);
        x.type(1, 1, 0, 0, 1);
        x.type(1, 1, 0, 10, 1);
        Check.answers("0 each", () -> x.trip(0, 1, 1, 0), 20);
        Check.answers("10 each", () -> x.trip(1, 1, 1, 0), 20 + 20);
        wrongInPlace(3, -1, 11, LEAST, GREATEST);
    }

    private static void cents() {
        Check.sentence("CENTS (1 .. 100000)");
        RoundTrips x = House.of(1);
        x.type(1, 100, 0, 0, 100000);
        x.type(1, 10, 0, 0, 1);
        // One car of type 1 carries 150, six carry 900, one of type 0 carries 1500.
        Check.answers("six of 1 cent", () -> x.cheapest(900), 16);
        Check.answers("one of 100000 cents", () -> x.cheapest(901), 1);
        Check.answers("six of 100000 cents", () -> x.cheapest(9000), 6);
        wrongInPlace(4, 0, 100001, -1, LEAST, GREATEST);
    }

    private static void thereAreSix() {
        Check.sentence("illegal state: there are 6");
        RoundTrips x = new RoundTrips();
        for (int number = 0; number < 5; number++) {
            x.type(1, 1, 0, 0, 1);
        }
        Check.answers("a sixth type", () -> x.type(5, 100, 30, 10, 100000), 5);
        Check.illegalState("a seventh type", () -> x.type(1, 1, 0, 0, 1));
        Check.refusedState("the least seventh type", House::full, full -> full.type(1, 1, 0, 0, 1));
        Check.refusedState("the greatest seventh type", House::full, full -> full.type(5, 100, 30, 10, 100000));
    }

    private static void wrongInPlace(int place, int... wrong) {
        int[][] rest = {{1, 1, 0, 0, 1}, {5, 100, 30, 10, 100000}};
        for (int number : wrong) {
            for (int[] numbers : rest) {
                int[] a = numbers.clone();
                a[place] = number;
                String name = "type(" + a[0] + ", " + a[1] + ", " + a[2] + ", " + a[3] + ", " + a[4] + ")";
                Check.refusedArgument(name, House::small, x -> x.type(a[0], a[1], a[2], a[3], a[4]));
                Check.refusedArgument("full: " + name, House::full, x -> x.type(a[0], a[1], a[2], a[3], a[4]));
            }
        }
    }
}
