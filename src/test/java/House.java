/** Makes objects in the states at which the document's bounds stand. */
final class House {
    private House() {
    }

    /** Floors of these persons, each with a storey of 10 decimetres, and no type. */
    static RoundTrips of(int... persons) {
        RoundTrips x = new RoundTrips();
        for (int n : persons) {
            x.floor(n, 10);
        }
        return x;
    }

    /** As many floors, nobody in them, and no type. */
    static RoundTrips empty(int floors) {
        return of(new int[floors]);
    }

    /** Three floors of 60 persons together and two types. */
    static RoundTrips small() {
        RoundTrips x = new RoundTrips();
        x.floor(10, 30);
        x.floor(20, 45);
        x.floor(30, 25);
        x.type(3, 20, 4, 1, 1000);
        x.type(2, 15, 6, 2, 700);
        return x;
    }

    /** Twelve floors of 200 persons together and six types: no more of anything. */
    static RoundTrips full() {
        RoundTrips x = new RoundTrips();
        for (int floor = 1; floor <= 12; floor++) {
            x.floor(floor == 12 ? 35 : 15, 20 + floor);
        }
        for (int type = 0; type < 6; type++) {
            x.type(1 + type % 5, 10 + type, type, 1, 100 + type);
        }
        return x;
    }

    /** No floor and one type. */
    static RoundTrips withoutFloors() {
        RoundTrips x = new RoundTrips();
        x.type(2, 10, 1, 1, 5);
        return x;
    }
}
