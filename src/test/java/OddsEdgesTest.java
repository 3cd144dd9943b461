/** Promises 5 to 8, sentence by sentence: the least and the greatest zones and numbers, nobody, refused calls. */
public final class OddsEdgesTest {
    private static final int LEAST = Integer.MIN_VALUE;
    private static final int GREATEST = Integer.MAX_VALUE;

    public static void main(String[] args) {
        zonesOfOneFloor();
        zonesOfAllFloors();
        zonesAreTheirFloorsAlone();
        personsByThemselves();
        meanStops();
        meanHighest();
        tripsSum();
        nobody();
        greatestFractions();
        greatestFractionsThatShrink();
        parts();
        toBelowFrom();
        noSuchFloor();
        noSuchType();
        shorterAsLongLonger();
        hardlyShorter();
        greatestComparisons();
        compareRefuses();
        Check.end();
    }

    private static void zonesOfOneFloor() {
        Check.sentence("A ZONE is a row of floors, from one to another one");
        RoundTrips x = House.full();
        int height = 0;
        for (int floor = 1; floor <= 12; floor++) {
            int f = floor;
            height += 20 + f;
            for (int type = 0; type < 6; type++) {
                int t = type;
                Check.fraction("stops in floor " + f, part -> x.stops(t, f, f, part), 1, 1);
            }
            Check.fraction("highest in floor " + f, part -> x.highest(4, f, f, part), height, 1);
        }
        // Type 5 has room for 1, a speed of 15, doors of 5, people of 1.
        Check.fraction("trip to floor 1", part -> x.trip(5, 1, 1, part), 74, 5);
        Check.fraction("trip to floor 12", part -> x.trip(5, 12, 12, part), 272, 5);
    }

    private static void zonesOfAllFloors() {
        Check.sentence("A ZONE is a row of floors, from one to another one");
        RoundTrips x = House.of(1, 1, 1, 1, 1, 1, 1, 1, 1, 1, 1, 1);
        x.type(5, 1, 1, 1, 1);
        x.type(1, 1, 1, 1, 1);
        Check.fraction("stops of five in twelve", part -> x.stops(0, 1, 12, part), 87781, 20736);
        Check.fraction("highest of five in twelve", part -> x.highest(0, 1, 12, part), 1085045, 10368);
        Check.fraction("trip of five in twelve", part -> x.trip(0, 1, 12, part), 1552019, 6912);
        Check.fraction("stops of one in twelve", part -> x.stops(1, 1, 12, part), 1, 1);
        Check.fraction("highest of one in twelve", part -> x.highest(1, 1, 12, part), 65, 1);
        Check.fraction("trip of one in twelve", part -> x.trip(1, 1, 12, part), 134, 1);
    }

    private static void zonesAreTheirFloorsAlone() {
        Check.sentence("A ZONE is a row of floors, from one to another one; U are its persons.");
        RoundTrips x = House.of(50, 1, 1, 50);
        x.type(2, 1, 0, 0, 1);
        Check.fraction("stops in the middle", part -> x.stops(0, 2, 3, part), 3, 2);
        Check.fraction("highest in the middle", part -> x.highest(0, 2, 3, part), 55, 2);
        Check.fraction("trip to the middle", part -> x.trip(0, 2, 3, part), 55, 1);
    }

    private static void personsByThemselves() {
        Check.sentence("each of P persons is of any of the U alike, by themselves, and gets off at their floor");
        RoundTrips x = House.of(1, 1);
        for (int room = 1; room <= 5; room++) {
            x.type(room, 1, 1, 1, 1);
        }
        // Two persons in the house fill a car of five too: they are drawn anew for each place.
        Check.fraction("room for 1", part -> x.stops(0, 1, 2, part), 1, 1);
        Check.fraction("room for 2", part -> x.stops(1, 1, 2, part), 3, 2);
        Check.fraction("room for 3", part -> x.stops(2, 1, 2, part), 7, 4);
        Check.fraction("room for 4", part -> x.stops(3, 1, 2, part), 15, 8);
        Check.fraction("room for 5", part -> x.stops(4, 1, 2, part), 31, 16);
        x.persons(1, 0);
        Check.fraction("one person for 5 places", part -> x.stops(4, 1, 2, part), 1, 1);
    }

    private static void meanStops() {
        Check.sentence("STOPS is the mean number of floors at which somebody gets off");
        RoundTrips x = House.of(2, 0, 1);
        x.type(2, 1, 0, 0, 1);
        // Of nine ways (1, 3) and (3, 1) are two each, which stop twice.
        Check.fraction("nobody gets off at floor 2", part -> x.stops(0, 1, 3, part), 13, 9);
        Check.fraction("floor 2 and one of all", part -> x.stops(0, 2, 3, part), 1, 1);
    }

    private static void meanHighest() {
        Check.sentence("HIGHEST the mean height of the highest of these");
        RoundTrips x = House.of(2, 1, 0);
        x.type(2, 1, 0, 0, 1);
        // Four of nine ways end at floor 1, five at floor 2, none at floor 3.
        Check.fraction("an empty floor above", part -> x.highest(0, 1, 3, part), 140, 9);
        x.persons(3, 197);
        Check.fraction("9 of 40000 ways end below floor 3", part -> x.highest(0, 1, 3, part), 119987, 4000);
    }

    private static void tripsSum() {
        Check.sentence("TRIP is 2 * HIGHEST / speed + (STOPS + 1) * doors + 2 * P * people.");
        RoundTrips x = House.of(1, 1);
        x.type(2, 7, 0, 0, 1);
        x.type(2, 7, 5, 0, 1);
        x.type(2, 7, 0, 3, 1);
        x.type(2, 7, 5, 3, 1);
        // HIGHEST is 35 / 2, STOPS is 3 / 2.
        Check.fraction("the way alone", part -> x.trip(0, 1, 2, part), 5, 1);
        Check.fraction("and doors", part -> x.trip(1, 1, 2, part), 35, 2);
        Check.fraction("and people", part -> x.trip(2, 1, 2, part), 17, 1);
        Check.fraction("and both", part -> x.trip(3, 1, 2, part), 59, 2);
    }

    private static void nobody() {
        Check.sentence("with U 0 all three are 0");
        RoundTrips x = House.of(0, 0, 4, 0, 0);
        x.type(5, 1, 30, 10, 1);
        x.type(1, 100, 0, 0, 1);
        int[][] zones = {{1, 1}, {1, 2}, {2, 2}, {4, 5}, {5, 5}};
        for (int[] zone : zones) {
            int from = zone[0];
            int to = zone[1];
            for (int type = 0; type < 2; type++) {
                int t = type;
                String name = " of type " + t + " in " + from + " to " + to;
                Check.fraction("stops" + name, part -> x.stops(t, from, to, part), 0, 1);
                Check.fraction("highest" + name, part -> x.highest(t, from, to, part), 0, 1);
                Check.fraction("trip" + name, part -> x.trip(t, from, to, part), 0, 1);
            }
            Check.answers("compare in " + from + " to " + to, () -> x.compare(0, 1, from, to), 0);
        }
        Check.fraction("somebody comes in", part -> x.stops(0, 2, 4, part), 1, 1);
        x.persons(3, 0);
        Check.fraction("stops when all have gone", part -> x.stops(0, 1, 5, part), 0, 1);
        Check.fraction("highest when all have gone", part -> x.highest(0, 1, 5, part), 0, 1);
        Check.fraction("trip when all have gone", part -> x.trip(0, 1, 5, part), 0, 1);
        x.persons(5, 1);
        Check.fraction("somebody is back", part -> x.trip(0, 1, 5, part), 100 + 60 + 100, 1);
    }

    private static RoundTrips tall(int lower, int lowerFloors, int upper) {
        RoundTrips x = new RoundTrips();
        for (int floor = 1; floor <= 12; floor++) {
            x.floor(floor <= lowerFloors ? lower : upper, 100);
        }
        x.type(5, 97, 30, 10, 1);
        x.type(5, 100, 30, 10, 1);
        x.type(5, 1, 30, 10, 1);
        x.type(5, 97, 29, 9, 1);
        return x;
    }

    /** 199 persons are a prime number of them: nothing shrinks. */
    private static void greatestFractions() {
        Check.sentence("All are exact, as fractions in lowest terms");
        RoundTrips x = tall(16, 11, 23);
        Check.fraction("stops", part -> x.stops(0, 1, 12, part), 1318475086039L, 312079600999L);
        Check.fraction("highest", part -> x.highest(0, 1, 12, part), 334452920341200L, 312079600999L);
        Check.fraction("trip at 97", part -> x.trip(0, 1, 12, part), 8440992109653280L, 30271721296903L);
        Check.fraction("trip at 100", part -> x.trip(1, 1, 12, part), 86813659117864L, 312079600999L);
        Check.fraction("trip at 1", part -> x.trip(2, 1, 12, part), 749030441393440L, 312079600999L);
        Check.fraction("trip, fewer doors", part -> x.trip(3, 1, 12, part), 7980111092041564L, 30271721296903L);
    }

    /** 200 persons to the 5th have many divisors. */
    private static void greatestFractionsThatShrink() {
        Check.sentence("All are exact, as fractions in lowest terms");
        RoundTrips x = tall(16, 8, 18);
        Check.fraction("stops", part -> x.stops(0, 1, 12, part), 2115609617L, 500000000L);
        Check.fraction("highest", part -> x.highest(0, 1, 12, part), 26488733139L, 25000000L);
        Check.fraction("trip at 97", part -> x.trip(0, 1, 12, part), 1352097331103L, 4850000000L);
        Check.fraction("trip at 100", part -> x.trip(1, 1, 12, part), 173829727207L, 625000000L);
        RoundTrips one = tall(0, 11, 200);
        Check.fraction("all 200 on floor 12: stops", part -> one.stops(0, 1, 12, part), 1, 1);
        Check.fraction("all 200 on floor 12: highest", part -> one.highest(0, 1, 12, part), 1200, 1);
        Check.fraction("all 200 on floor 12: trip", part -> one.trip(1, 1, 12, part), 184, 1);
        Check.fraction("all 200 on floor 12: the longest", part -> one.trip(2, 1, 12, part), 2560, 1);
    }

    private static void parts() {
        Check.sentence("above (part 0), below (part 1)");
        RoundTrips x = House.of(1, 1);
        x.type(2, 4, 3, 1, 1);
        Check.answers("stops above", () -> x.stops(0, 1, 2, 0), 3);
        Check.answers("stops below", () -> x.stops(0, 1, 2, 1), 2);
        Check.answers("highest above", () -> x.highest(0, 1, 2, 0), 35);
        Check.answers("highest below", () -> x.highest(0, 1, 2, 1), 2);
        Check.answers("trip above", () -> x.trip(0, 1, 2, 0), 81);
        Check.answers("trip below", () -> x.trip(0, 1, 2, 1), 4);
        int[] wrong = {-1, 2, LEAST, GREATEST};
        for (int part : wrong) {
            refusedZone(0, 1, 2, part);
        }
        Check.illegalArgument("a wrong part of nothing", () -> House.full().stops(0, 1, 1, 2));
    }

    private static void toBelowFrom() {
        Check.sentence("Illegal argument: also if to is below from.");
        RoundTrips x = House.small();
        Check.answers("to is from", () -> x.stops(0, 2, 2, 0), 1);
        refusedZone(0, 2, 1, 0);
        refusedZone(0, 3, 2, 0);
        refusedZone(0, 3, 1, 1);
        refusedZone(1, GREATEST, LEAST, 0);
        RoundTrips full = House.full();
        for (int from = 2; from <= 12; from++) {
            int f = from;
            Check.illegalArgument("stops in " + f + " to " + (f - 1), () -> full.stops(0, f, f - 1, 0));
            Check.illegalArgument("highest in " + f + " to 1", () -> full.highest(0, f, 1, 0));
            Check.illegalArgument("trip in " + f + " to " + (f - 1), () -> full.trip(0, f, f - 1, 0));
        }
    }

    private static void noSuchFloor() {
        Check.sentence("there is no such floor");
        int[] wrong = {0, -1, 4, 12, 13, LEAST, GREATEST};
        for (int floor : wrong) {
            refusedZone(0, floor, 3, 0);
            refusedZone(0, 1, floor, 0);
            refusedZone(0, floor, floor, 0);
        }
        RoundTrips full = House.full();
        Check.answers("to the 12th of twelve", () -> full.stops(0, 1, 12, 0), 1);
        Check.illegalArgument("to the 13th of twelve", () -> full.stops(0, 1, 13, 0));
        Check.illegalArgument("from the 13th of twelve", () -> full.stops(0, 13, 13, 0));
        Check.illegalArgument("from the ground on", () -> full.stops(0, 0, 12, 0));
    }

    private static void noSuchType() {
        Check.sentence("there is no such floor, type");
        int[] wrong = {-1, 2, 5, 6, LEAST, GREATEST};
        for (int type : wrong) {
            refusedZone(type, 1, 3, 0);
        }
        RoundTrips full = House.full();
        Check.answers("the 6th of six", () -> full.stops(5, 1, 12, 0), 1);
        Check.illegalArgument("the 7th of six", () -> full.stops(6, 1, 12, 0));
    }

    private static void refusedZone(int type, int from, int to, int part) {
        String args = "(" + type + ", " + from + ", " + to + ", " + part + ")";
        Check.refusedArgument("stops" + args, House::small, x -> x.stops(type, from, to, part));
        Check.refusedArgument("highest" + args, House::small, x -> x.highest(type, from, to, part));
        Check.refusedArgument("trip" + args, House::small, x -> x.trip(type, from, to, part));
    }

    private static void shorterAsLongLonger() {
        Check.sentence("shorter (-1) than, as long (0) as, longer (1) than another one's in the same zone");
        RoundTrips x = House.of(1, 1);
        x.type(2, 7, 5, 3, 1);
        x.type(1, 3, 3, 3, 1);
        x.type(2, 35, 3, 5, 1);
        x.type(2, 7, 5, 3, 100000);
        // In both floors: 59 / 2, 22, 57 / 2, 59 / 2; in floor 1: 174 / 7, 56 / 3, 186 / 7, 174 / 7.
        Check.answers("29.5 with 22", () -> x.compare(0, 1, 1, 2), 1);
        Check.answers("22 with 29.5", () -> x.compare(1, 0, 1, 2), -1);
        Check.answers("29.5 with 28.5", () -> x.compare(0, 2, 1, 2), 1);
        Check.answers("28.5 with 29.5", () -> x.compare(2, 0, 1, 2), -1);
        Check.answers("floor 1: 174 / 7 with 186 / 7", () -> x.compare(0, 2, 1, 1), -1);
        Check.answers("floor 1: 186 / 7 with 174 / 7", () -> x.compare(2, 0, 1, 1), 1);
        Check.answers("one at another price", () -> x.compare(0, 3, 1, 2), 0);
        // Of floors 1 and 2 a car of one goes 15 decimetres high on the average, one of two 35 / 2.
        x.type(1, 5, 0, 0, 1);
        x.type(2, 5, 0, 0, 1);
        Check.answers("6 with 7: each with the odds of its own room", () -> x.compare(4, 5, 1, 2), -1);
        Check.answers("7 with 6", () -> x.compare(5, 4, 1, 2), 1);
        Check.answers("one with itself", () -> x.compare(1, 1, 1, 2), 0);
    }

    /** One person of 200 at the lower floor: five of them there are one way of 200 to the 5th. */
    private static void hardlyShorter() {
        Check.sentence("shorter (-1) than, as long (0) as, longer (1) than another one's in the same zone");
        RoundTrips x = new RoundTrips();
        x.floor(1, 50);
        x.floor(199, 10);
        x.type(5, 3, 0, 0, 1);
        x.type(5, 4, 0, 1, 1);
        Check.fraction("hardly below 40", part -> x.trip(0, 1, 2, part), 1919999999999L, 48000000000L);
        Check.fraction("still less below 40", part -> x.trip(1, 1, 2, part), 2559999999999L, 64000000000L);
        Check.answers("hardly shorter", () -> x.compare(0, 1, 1, 2), -1);
        Check.answers("hardly longer", () -> x.compare(1, 0, 1, 2), 1);
        for (int n = 100; n <= 199; n++) {
            String name = "one of " + (n + 1) + " lower";
            x.persons(2, n);
            Check.answers(name + ": shorter", () -> x.compare(0, 1, 1, 2), -1);
            Check.answers(name + ": longer", () -> x.compare(1, 0, 1, 2), 1);
        }
        x.persons(1, 0);
        Check.answers("both 40", () -> x.compare(0, 1, 1, 2), 0);
        Check.answers("both 40, the other way round", () -> x.compare(1, 0, 1, 2), 0);
    }

    private static void greatestComparisons() {
        Check.sentence("shorter (-1) than, as long (0) as, longer (1) than another one's in the same zone");
        RoundTrips x = tall(16, 11, 23);
        x.type(5, 97, 30, 10, 7);
        // About 278.84, 278.18, 2400.13, 263.62, and the first again.
        int[] rank = {3, 2, 4, 1, 3};
        for (int type = 0; type < 5; type++) {
            for (int other = 0; other < 5; other++) {
                int a = type;
                int b = other;
                int due = Integer.compare(rank[a], rank[b]);
                Check.answers("compare(" + a + ", " + b + ", 1, 12)", () -> x.compare(a, b, 1, 12), due);
            }
        }
    }

    private static void compareRefuses() {
        Check.sentence("Whether a type's trip in a zone is shorter");
        int[] noTypes = {-1, 2, 5, 6, LEAST, GREATEST};
        for (int type : noTypes) {
            refusedCompare(type, 0, 1, 3);
            refusedCompare(0, type, 1, 3);
            refusedCompare(type, type, 1, 3);
        }
        int[] noFloors = {0, -1, 4, 12, 13, LEAST, GREATEST};
        for (int floor : noFloors) {
            refusedCompare(0, 1, floor, 3);
            refusedCompare(0, 1, 1, floor);
            refusedCompare(0, 0, floor, floor);
        }
        refusedCompare(0, 1, 2, 1);
        refusedCompare(0, 1, 3, 2);
        refusedCompare(1, 1, 3, 1);
        Check.answers("the last types and floors", () -> House.full().compare(5, 5, 12, 12), 0);
        Check.illegalArgument("a type too many", () -> House.full().compare(5, 6, 12, 12));
        Check.illegalArgument("a floor too many", () -> House.full().compare(5, 5, 12, 13));
    }

    private static void refusedCompare(int type, int other, int from, int to) {
        String args = "(" + type + ", " + other + ", " + from + ", " + to + ")";
        Check.refusedArgument("compare" + args, House::small, x -> x.compare(type, other, from, to));
    }
}
