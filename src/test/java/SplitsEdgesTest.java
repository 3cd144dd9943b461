/** Promise 11, sentence by sentence: fewest and most zones and floors, equal splits, refused calls. */
public final class SplitsEdgesTest {
    private static final int LEAST = Integer.MIN_VALUE;
    private static final int GREATEST = Integer.MAX_VALUE;

    public static void main(String[] args) {
        zonesFromOneToFour();
        oneZone();
        allFloorsTogether();
        noneEmpty();
        asManyFloorsAsZones();
        leastGreatestTrip();
        greatestNumbers();
        firstZoneEndsLowest();
        secondZoneEndsLowest();
        thirdZoneEndsLowest();
        jBelowK();
        noSuchType();
        fewerFloorsThanZones();
        Check.end();
    }

    private static void zonesFromOneToFour() {
        Check.sentence("A SPLIT into k zones (1 .. 4)");
        RoundTrips x = House.full();
        Check.answers("into one", () -> x.split(0, 1, 0), 12);
        Check.answers("into four", () -> x.split(0, 4, 3), 12);
        int[] wrong = {0, 5, -1, LEAST, GREATEST};
        for (int k : wrong) {
            Check.refusedArgument("small: into " + k, House::small, house -> house.split(0, k, 0));
            Check.refusedArgument("full: into " + k, House::full, house -> house.split(0, k, 0));
            Check.refusedArgument("full: into " + k + ", the last", House::full, house -> house.split(0, k, k - 1));
        }
    }

    private static void oneZone() {
        Check.sentence("that are all floors together");
        RoundTrips x = new RoundTrips();
        x.type(5, 100, 30, 10, 1);
        for (int floors = 1; floors <= 12; floors++) {
            int top = floors;
            x.floor(floors % 3, 10);
            Check.answers("one zone of " + top, () -> x.split(0, 1, 0), top);
        }
    }

    private static void allFloorsTogether() {
        Check.sentence("that are all floors together");
        RoundTrips x = House.empty(12);
        x.type(2, 1, 1, 1, 1);
        x.persons(1, 100);
        // All are on floor 1, so that the empty floors above could be left out.
        for (int k = 1; k <= 4; k++) {
            int zones = k;
            Check.answers("the last of " + zones, () -> x.split(0, zones, zones - 1), 12);
        }
    }

    private static void noneEmpty() {
        Check.sentence("none empty");
        // One in a car and no doors: the mean height alone counts, and all floors in one zone have the least.
        RoundTrips three = House.of(10, 10, 10);
        three.type(1, 1, 0, 0, 1);
        ends(three, 0, 1, 3);
        ends(three, 0, 1, 2, 3);
        RoundTrips four = House.of(10, 10, 10, 10);
        four.type(1, 1, 0, 0, 1);
        ends(four, 0, 1, 4);
        ends(four, 0, 1, 2, 4);
        ends(four, 0, 1, 2, 3, 4);
    }

    private static void asManyFloorsAsZones() {
        Check.sentence("none empty");
        for (int floors = 1; floors <= 4; floors++) {
            RoundTrips full = new RoundTrips();
            RoundTrips empty = House.empty(floors);
            full.type(5, 1, 30, 10, 1);
            empty.type(5, 1, 30, 10, 1);
            int[] due = new int[floors];
            for (int floor = 1; floor <= floors; floor++) {
                full.floor(50, 100);
                due[floor - 1] = floor;
            }
            ends(full, 0, due);
            ends(empty, 0, due);
        }
    }

    private static void leastGreatestTrip() {
        Check.sentence("THE BEST one has the least greatest TRIP of its zones");
        RoundTrips x = House.of(1, 1, 1, 1);
        x.type(2, 100, 30, 0, 1);
        x.type(1, 1, 0, 0, 1);
        // By doors: two floors and two have the fewest stops in the zone of most.
        ends(x, 0, 2, 4);
        // By the way alone: floors 2 to 4 have the mean height 30, floor 4 alone has 40.
        ends(x, 1, 1, 4);
        RoundTrips crowded = House.of(1, 1, 1);
        crowded.type(5, 100, 30, 0, 1);
        crowded.persons(3, 100);
        // Floors 1 and 2 have 31 / 16 stops; at floors 2 and 3 nearly all get off at floor 3.
        ends(crowded, 0, 1, 3);
        crowded.persons(3, 1);
        crowded.persons(1, 100);
        ends(crowded, 0, 2, 3);
    }

    /** 199 persons, five in a car: the trips are fractions of the greatest parts. */
    private static void greatestNumbers() {
        Check.sentence("THE BEST one has the least greatest TRIP of its zones");
        int[] persons = {16, 16, 16, 16, 16, 16, 16, 16, 16, 16, 16, 23};
        RoundTrips x = new RoundTrips();
        Model model = new Model();
        for (int n : persons) {
            x.floor(n, 100);
            model.floor(n, 100);
        }
        x.type(5, 97, 30, 10, 1);
        model.type(5, 97, 30, 10, 1);
        for (int k = 2; k <= 4; k++) {
            int zones = k;
            int due = model.split(0, zones, zones - 2);
            Check.answers("the last but one of " + zones, () -> x.split(0, zones, zones - 2), due);
        }
    }

    private static void firstZoneEndsLowest() {
        Check.sentence("of several the one whose first zone ends lowest");
        // The zone of floor 5 is the longest and as long wherever it begins.
        RoundTrips two = House.of(5, 0, 0, 0, 5);
        two.type(2, 1, 1, 1, 1);
        ends(two, 0, 1, 5);
        // As good: 3, 4, 5, 6.
        RoundTrips four = House.of(0, 1, 0, 1, 1, 1);
        four.type(2, 10, 30, 0, 1);
        ends(four, 0, 2, 4, 5, 6);
        // As good: 2, 3, 5, whose second zone ends lower.
        RoundTrips three = House.of(0, 1, 1, 60, 2);
        three.type(2, 10, 30, 0, 1);
        ends(three, 0, 1, 4, 5);
        ends(nobody(), 0, 1, 12);
    }

    private static void secondZoneEndsLowest() {
        Check.sentence("of these whose second one does");
        // As good: 2, 5, 6.
        RoundTrips three = House.of(1, 1, 1, 2, 0, 1);
        three.type(2, 10, 30, 0, 1);
        ends(three, 0, 2, 4, 6);
        // As good: 1, 4, 5, 7, whose third zone ends lower.
        RoundTrips four = House.of(9, 9, 0, 1, 1, 60, 2);
        four.type(2, 10, 30, 0, 1);
        ends(four, 0, 1, 2, 6, 7);
        ends(nobody(), 0, 1, 2, 12);
    }

    private static void thirdZoneEndsLowest() {
        Check.sentence("and so on");
        // As good: 2, 3, 6, 7.
        RoundTrips four = House.of(1, 1, 1, 1, 2, 0, 2);
        four.type(2, 100, 30, 0, 1);
        ends(four, 0, 2, 3, 5, 7);
        ends(nobody(), 0, 1, 2, 3, 12);
    }

    /** All splits of it are as good. */
    private static RoundTrips nobody() {
        RoundTrips x = House.empty(12);
        x.type(5, 1, 30, 10, 1);
        return x;
    }

    private static void jBelowK() {
        Check.sentence("Illegal argument: also if j is not below k");
        for (int k = 1; k <= 4; k++) {
            int zones = k;
            Check.answers("the last of " + zones, () -> House.full().split(0, zones, zones - 1), 12);
            int[] wrong = {zones, zones + 1, -1, LEAST, GREATEST};
            for (int j : wrong) {
                String name = "zone " + j + " of " + zones;
                Check.refusedArgument(name, House::full, x -> x.split(0, zones, j));
                Check.refusedArgument("no floor: " + name, House::withoutFloors, x -> x.split(0, zones, j));
            }
        }
        Check.refusedArgument("zone 4 of five", House::full, x -> x.split(0, 5, 4));
        Check.refusedArgument("zone 0 of none", House::full, x -> x.split(0, 0, 0));
        Check.refusedArgument("zone -1 of none", House::full, x -> x.split(0, 0, -1));
        Check.refusedArgument("the least of the least", House::full, x -> x.split(0, LEAST, LEAST));
    }

    private static void noSuchType() {
        Check.sentence("there is no such floor, type");
        int[] wrong = {-1, 2, 5, 6, LEAST, GREATEST};
        for (int type : wrong) {
            Check.refusedArgument("split(" + type + ", 2, 0)", House::small, x -> x.split(type, 2, 0));
        }
        Check.answers("the 6th of six", () -> House.full().split(5, 1, 0), 12);
        Check.refusedArgument("the 7th of six", House::full, x -> x.split(6, 1, 0));
    }

    private static void fewerFloorsThanZones() {
        Check.sentence("illegal state: there are fewer than k floors");
        for (int k = 1; k <= 4; k++) {
            int zones = k;
            Check.Maker oneFewer = () -> withType(House.empty(zones - 1));
            Check.refusedState((zones - 1) + " floors, " + zones + " zones", oneFewer, x -> x.split(0, zones, 0));
            Check.refusedState(zones + " zones, the last", oneFewer, x -> x.split(0, zones, zones - 1));
            Check.refusedArgument(zones + " zones, one too high", oneFewer, x -> x.split(0, zones, zones));
            Check.refusedArgument(zones + " zones, no such type", oneFewer, x -> x.split(1, zones, 0));
            Check.answers(zones + " floors and zones", () -> withType(House.empty(zones)).split(0, zones, 0), 1);
        }
        Check.refusedArgument("no floor, five zones", House::withoutFloors, x -> x.split(0, 5, 0));
        Check.refusedArgument("no floor, no type", RoundTrips::new, x -> x.split(0, 1, 0));
    }

    private static RoundTrips withType(RoundTrips x) {
        x.type(2, 1, 1, 1, 1);
        return x;
    }

    private static void ends(RoundTrips x, int type, int... due) {
        for (int j = 0; j < due.length; j++) {
            int zone = j;
            Check.answers("split(" + type + ", " + due.length + ", " + j + ")",
                    () -> x.split(type, due.length, zone), due[j]);
        }
    }
}
