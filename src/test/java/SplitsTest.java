/** Promise 11: split. */
public final class SplitsTest {
    public static void main(String[] args) {
        ordinary();
        equalOnesEndLowest();
        laterZonesNeedNotBeBest();
        longestTripIsWhatCounts();
        asManyZonesAsFloors();
        tallBuildings();
        wrongInputs();
        Check.end();
    }

    /** With doors and people alone the trips hang on the number of stops, so halves are the best. */
    private static void ordinary() {
        RoundTrips x = new RoundTrips();
        for (int i = 0; i < 6; i++) {
            x.floor(10, 10);
        }
        x.type(5, 100, 30, 0, 1);
        ends(x, 0, 6);
        ends(x, 0, 3, 6);
        ends(x, 0, 2, 4, 6);
        // A crowd on the highest floor makes other stops rare: floors 3 to 6 have fewer than floors 1 to 3.
        x.persons(6, 150);
        ends(x, 0, 2, 6);
    }

    private static void equalOnesEndLowest() {
        RoundTrips x = new RoundTrips();
        for (int i = 0; i < 7; i++) {
            x.floor(0, 10);
        }
        x.type(5, 1, 30, 10, 1);
        ends(x, 0, 7);
        ends(x, 0, 1, 7);
        ends(x, 0, 1, 2, 7);
        ends(x, 0, 1, 2, 3, 7);
    }

    /** Where one floor's zone is the longest one however the rest is split, the others end lowest. */
    private static void laterZonesNeedNotBeBest() {
        RoundTrips x = new RoundTrips();
        x.floor(5, 10);
        x.floor(1, 10);
        x.floor(0, 10);
        x.floor(0, 10);
        x.floor(0, 10);
        x.type(2, 1, 0, 0, 1);
        // Floors 1 and 2 together are 2 * 470 / 36, floor 2 alone is 2 * 20.
        ends(x, 0, 2, 5);
        ends(x, 0, 2, 3, 5);
        x.persons(2, 0);
        ends(x, 0, 1, 5);
        ends(x, 0, 1, 2, 5);
        ends(x, 0, 1, 2, 3, 5);
        x.persons(1, 0);
        x.persons(5, 3);
        ends(x, 0, 1, 5);
        ends(x, 0, 1, 2, 5);
    }

    private static void longestTripIsWhatCounts() {
        RoundTrips x = new RoundTrips();
        x.floor(1, 10);
        x.floor(1, 10);
        x.floor(1, 100);
        x.type(2, 1, 0, 0, 1);
        x.type(2, 100, 30, 0, 1);
        // By height: floors 2 and 3 together are 2 * 95, floor 3 alone is 2 * 120.
        ends(x, 0, 1, 3);
        // By stops: either way one zone of two floors, but floors 1 and 2 are lower than 2 and 3.
        ends(x, 1, 2, 3);
    }

    private static void asManyZonesAsFloors() {
        RoundTrips x = new RoundTrips();
        x.type(3, 10, 5, 1, 1);
        for (int floors = 1; floors <= 4; floors++) {
            x.floor(floors, 30);
            for (int j = 0; j < floors; j++) {
                int k = floors;
                int zone = j;
                Check.answers("split(0, " + k + ", " + j + ")", () -> x.split(0, k, zone), zone + 1);
            }
            if (floors < 4) {
                int more = floors + 1;
                Check.illegalState(floors + " floors, " + more + " zones", () -> x.split(0, more, 0));
            }
        }
    }

    private static void tallBuildings() {
        int[][] buildings = {
            {1, 17, 13, 19, 11, 23, 29, 31, 3, 7, 2, 43},
            {90, 1, 1, 1, 1, 1, 1, 1, 1, 1, 1, 90},
            {0, 0, 0, 60, 0, 0, 60, 0, 0, 60, 0, 0},
            {16, 16, 16, 16, 16, 16, 16, 16, 16, 16, 16, 16}};
        int[][] types = {{5, 97, 30, 10, 1}, {3, 7, 2, 0, 1}, {1, 1, 0, 0, 1}};
        for (int[] building : buildings) {
            RoundTrips x = new RoundTrips();
            Model model = new Model();
            for (int i = 0; i < 12; i++) {
                x.floor(building[i], 100 - 7 * i);
                model.floor(building[i], 100 - 7 * i);
            }
            for (int t = 0; t < types.length; t++) {
                int[] a = types[t];
                x.type(a[0], a[1], a[2], a[3], a[4]);
                model.type(a[0], a[1], a[2], a[3], a[4]);
                // The model takes long over twelve floors and five persons.
                for (int k = a[0] == 5 ? 4 : 2; k <= 4; k++) {
                    int zones = k;
                    int type = t;
                    for (int j = 0; j < (a[0] == 5 ? 2 : k); j++) {
                        int zone = j;
                        Check.answers("tall: split(" + type + ", " + zones + ", " + zone + ")",
                                () -> x.split(type, zones, zone), model.split(type, zones, zone));
                    }
                }
            }
        }
    }

    private static void wrongInputs() {
        RoundTrips x = new RoundTrips();
        Check.illegalArgument("no type, no floor", () -> x.split(0, 1, 0));
        x.type(2, 1, 1, 1, 1);
        Check.illegalState("no floor", () -> x.split(0, 1, 0));
        Check.illegalArgument("a wrong zone comes before no floor", () -> x.split(0, 1, 1));
        Check.illegalArgument("five zones come before no floor", () -> x.split(0, 5, 0));
        for (int i = 0; i < 5; i++) {
            x.floor(1, 10);
        }
        int[] noTypes = {Integer.MIN_VALUE, -1, 1, 6, Integer.MAX_VALUE};
        for (int type : noTypes) {
            Check.illegalArgument("split(" + type + ", 1, 0)", () -> x.split(type, 1, 0));
        }
        int[] wrongZones = {Integer.MIN_VALUE, -1, 0, 5, Integer.MAX_VALUE};
        for (int k : wrongZones) {
            Check.illegalArgument("split(0, " + k + ", 0)", () -> x.split(0, k, 0));
            Check.illegalArgument("split(0, " + k + ", -1)", () -> x.split(0, k, -1));
        }
        for (int k = 1; k <= 4; k++) {
            int zones = k;
            int[] wrong = {Integer.MIN_VALUE, -1, k, k + 1, Integer.MAX_VALUE};
            for (int j : wrong) {
                Check.illegalArgument("split(0, " + k + ", " + j + ")", () -> x.split(0, zones, j));
            }
        }
    }

    private static void ends(RoundTrips x, int type, int... due) {
        for (int j = 0; j < due.length; j++) {
            int zone = j;
            Check.answers("split(" + type + ", " + due.length + ", " + j + ")",
                    () -> x.split(type, due.length, zone), due[j]);
        }
    }
}
