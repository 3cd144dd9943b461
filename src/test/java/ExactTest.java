/**
 * Promises 8 to 11 where only exact fractions answer rightly: trips of different lengths that are one and the same
 * number as doubles, and persons carried that are hardly below or above a whole number. A search for storeys found the
 * houses; the answers due are by fractions of big numbers.
 */
public final class ExactTest {
    public static void main(String[] args) {
        hardlyShorterOrLonger();
        hardlyShorterOfOtherRoom();
        justAsLong();
        hardlyTooLongForOneMore();
        hardlyShortEnoughForOneMore();
        hardlyBetterSplits();
        Check.end();
    }

    private static void hardlyShorterOrLonger() {
        Check.sentence("All are exact, as fractions in lowest terms");
        int[] persons = {8, 1, 7, 14, 1, 40, 5, 10, 12, 37, 46, 18};
        int[] one = {5, 87, 30, 10};
        int[] other = {5, 67, 29, 10};
        int[] longer = {92, 68, 93, 12, 99, 22, 55, 96, 38, 61, 33, 81};
        int[] shorter = {92, 68, 96, 54, 80, 22, 21, 57, 60, 92, 33, 67};
        hardlyApart(house(persons, longer, one, other), 1);
        hardlyApart(house(persons, shorter, one, other), -1);

        int[] persons2 = {38, 15, 6, 22, 1, 8, 26, 4, 6, 31, 17, 23};
        int[] one2 = {5, 76, 30, 10};
        int[] other2 = {5, 55, 29, 10};
        int[] longer2 = {63, 15, 46, 76, 51, 32, 70, 16, 25, 90, 26, 11};
        int[] shorter2 = {83, 34, 46, 60, 41, 21, 70, 13, 25, 86, 32, 11};
        hardlyApart(house(persons2, longer2, one2, other2), 1);
        hardlyApart(house(persons2, shorter2, one2, other2), -1);
    }

    private static void hardlyShorterOfOtherRoom() {
        Check.sentence("shorter (-1) than, as long (0) as, longer (1) than another one's in the same zone");
        int[] persons = {20, 10, 20, 7, 22, 17, 5, 25, 21, 39, 8, 5};
        int[] one = {5, 69, 4, 5};
        int[] other = {4, 25, 8, 1};
        int[] longer = {92, 47, 99, 31, 87, 45, 37, 48, 23, 13, 89, 79};
        int[] shorter = {70, 45, 60, 41, 91, 74, 37, 73, 23, 13, 89, 57};
        hardlyApart(house(persons, longer, one, other), 1);
        hardlyApart(house(persons, shorter, one, other), -1);
    }

    /** As sums of doubles these trips are not all as long. */
    private static void justAsLong() {
        Check.sentence("shorter (-1) than, as long (0) as, longer (1) than another one's in the same zone");
        RoundTrips x = house(
                new int[] {9, 4, 23, 11, 5, 11, 13, 12, 1, 19, 90, 2},
                new int[] {89, 79, 58, 40, 48, 77, 35, 68, 28, 24, 80, 63},
                new int[] {2, 8, 3, 2}, new int[] {4, 43, 15, 9});
        asLong(x, 397501, 2500);
        RoundTrips y = house(
                new int[] {11, 24, 19, 18, 8, 3, 3, 26, 10, 7, 5, 66},
                new int[] {31, 59, 69, 15, 95, 31, 74, 84, 82, 21, 84, 36},
                new int[] {4, 66, 9, 4}, new int[] {3, 40, 8, 5});
        asLong(y, 1420852343, 16000000);
        RoundTrips z = house(
                new int[] {2, 4, 56, 10, 22, 5, 37, 25, 2, 21, 2, 14},
                new int[] {94, 22, 99, 60, 49, 22, 87, 16, 16, 73, 86, 55},
                new int[] {2, 30, 19, 6}, new int[] {3, 95, 14, 8});
        asLong(z, 5411239, 50000);
    }

    /** 9000 over the trip is hardly below a whole number; in doubles, one way or another to divide rounds it up. */
    private static void hardlyTooLongForOneMore() {
        Check.sentence("300 * cars * P / TRIP persons of all floors, rounded down");
        sixCarsCarry(36, house(
                new int[] {7, 15, 22, 18, 1, 6, 45, 4, 6, 49, 4, 22},
                new int[] {66, 31, 88, 63, 29, 74, 13, 47, 20, 80, 23, 33},
                new int[] {5, 98, 28, 10}));
        sixCarsCarry(40, house(
                new int[] {13, 8, 2, 11, 39, 10, 70, 18, 8, 2, 14, 4},
                new int[] {64, 10, 77, 47, 79, 11, 83, 81, 82, 86, 55, 37},
                new int[] {5, 90, 28, 8}));
        sixCarsCarry(41, house(
                new int[] {5, 8, 55, 14, 6, 8, 1, 71, 5, 15, 6, 3},
                new int[] {14, 84, 36, 71, 15, 75, 99, 16, 56, 71, 76, 69},
                new int[] {5, 76, 28, 8}));
    }

    private static void hardlyShortEnoughForOneMore() {
        Check.sentence("300 * cars * P / TRIP persons of all floors, rounded down");
        sixCarsCarry(39, house(
                new int[] {4, 15, 56, 11, 1, 1, 5, 39, 1, 19, 30, 17},
                new int[] {90, 85, 47, 90, 33, 100, 21, 78, 44, 21, 44, 38},
                new int[] {5, 84, 27, 9}));
        sixCarsCarry(39, house(
                new int[] {1, 2, 55, 12, 1, 23, 37, 13, 16, 11, 6, 22},
                new int[] {22, 56, 12, 15, 62, 65, 84, 70, 69, 22, 60, 95},
                new int[] {5, 83, 25, 10}));
    }

    /** The longest zones of the two best splits: from one floor to the top, and up to the next floor. */
    private static void hardlyBetterSplits() {
        Check.sentence("THE BEST one has the least greatest TRIP of its zones");
        int[] persons = {9, 12, 31, 9, 71, 4, 5, 2, 24, 5, 24, 3};
        int[] car = {5, 48, 30, 7};
        higherOrLower(persons, car, 7,
                new int[] {36, 32, 38, 84, 60, 55, 11, 53, 32, 69, 37, 19},
                new int[] {36, 90, 62, 45, 84, 55, 12, 53, 10, 35, 94, 19});

        int[] persons2 = {25, 7, 25, 4, 5, 3, 3, 9, 89, 25, 3, 2};
        int[] car2 = {5, 31, 24, 9};
        higherOrLower(persons2, car2, 6,
                new int[] {73, 78, 49, 99, 69, 37, 89, 90, 23, 40, 63, 94},
                new int[] {73, 78, 49, 61, 69, 23, 98, 92, 59, 20, 27, 47});

        int[] persons3 = {12, 22, 16, 26, 14, 14, 37, 12, 27, 2, 6, 11};
        int[] car3 = {5, 34, 29, 6};
        higherOrLower(persons3, car3, 6,
                new int[] {80, 86, 40, 14, 18, 33, 35, 85, 55, 81, 82, 47},
                new int[] {80, 49, 40, 99, 99, 33, 46, 92, 57, 45, 96, 47});
    }

    /** Of the zones that end at a floor and at the next one, the higher one is hardly better, or the lower one. */
    private static void higherOrLower(int[] persons, int[] car, int lowEnd, int[] higher, int[] lower) {
        int highEnd = lowEnd + 1;
        RoundTrips x = house(persons, higher, car);
        sameDouble(trip(x, 0, highEnd, 12), trip(x, 0, 1, highEnd));
        Check.answers("the higher end is hardly better", () -> x.split(0, 2, 0), highEnd);
        Check.answers("the higher split's top", () -> x.split(0, 2, 1), 12);
        RoundTrips y = house(persons, lower, car);
        sameDouble(trip(y, 0, highEnd, 12), trip(y, 0, 1, highEnd));
        Check.answers("the lower end is hardly better", () -> y.split(0, 2, 0), lowEnd);
        Check.answers("the lower split's top", () -> y.split(0, 2, 1), 12);
    }

    private static void hardlyApart(RoundTrips x, int due) {
        sameDouble(trip(x, 0, 1, 12), trip(x, 1, 1, 12));
        Check.answers("one with the other", () -> x.compare(0, 1, 1, 12), due);
        Check.answers("the other with the one", () -> x.compare(1, 0, 1, 12), -due);
        Check.answers("one with itself", () -> x.compare(0, 0, 1, 12), 0);
    }

    private static void asLong(RoundTrips x, long above, long below) {
        Check.fraction("one's trip", part -> x.trip(0, 1, 12, part), above, below);
        Check.fraction("the other's trip", part -> x.trip(1, 1, 12, part), above, below);
        Check.answers("one with the other", () -> x.compare(0, 1, 1, 12), 0);
        Check.answers("the other with the one", () -> x.compare(1, 0, 1, 12), 0);
    }

    private static void sixCarsCarry(int due, RoundTrips x) {
        Check.answers("six cars", () -> x.carried(6, 0), due);
        Check.answers("for so many", () -> x.cheapest(due), 6);
        Check.answers("for one more", () -> x.cheapest(due + 1), RoundTrips.NONE);
    }

    /** Without this the houses would show nothing. */
    private static void sameDouble(long[] trip, long[] other) {
        boolean apart = trip[0] != other[0] || trip[1] != other[1];
        Check.same("the trips are apart", Boolean.toString(apart), "true");
        Check.same("but not as doubles", asDouble(trip), asDouble(other));
    }

    private static String asDouble(long[] trip) {
        return Double.toString((double) trip[0] / trip[1]);
    }

    private static long[] trip(RoundTrips x, int type, int from, int to) {
        return new long[] {x.trip(type, from, to, 0), x.trip(type, from, to, 1)};
    }

    private static RoundTrips house(int[] persons, int[] storeys, int[]... cars) {
        RoundTrips x = new RoundTrips();
        for (int i = 0; i < persons.length; i++) {
            x.floor(persons[i], storeys[i]);
        }
        for (int[] car : cars) {
            x.type(car[0], car[1], car[2], car[3], 1);
        }
        return x;
    }
}
