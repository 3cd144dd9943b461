import java.util.Arrays;

/**
 * The calls of the face as a table: each with the bounds of its numbers in a house of so many floors and types, on the
 * class and on the model.
 */
final class Kind {
    /** A call of the class with its numbers. */
    interface Real {
        long ask(RoundTrips x, int[] a);
    }

    /** The same call of the model. */
    interface Due {
        long ask(Model x, int[] a);
    }

    final String name;
    final int[] least;
    final int[] most;
    final Real real;
    final Due due;

    private Kind(String name, int[] least, int[] most, Real real, Due due) {
        this.name = name;
        this.least = least;
        this.most = most;
        this.real = real;
        this.due = due;
    }

    /** A number of a zone in a split is below four here; that it is also below the zones is for the splits' tests. */
    static Kind[] in(int floors, int types) {
        int top = types - 1;
        return new Kind[] {
            new Kind("floor", row(0, 10), row(200, 100),
                    (x, a) -> x.floor(a[0], a[1]), (x, a) -> x.floor(a[0], a[1])),
            new Kind("persons", row(1, 0), row(floors, 200),
                    (x, a) -> x.persons(a[0], a[1]), (x, a) -> x.persons(a[0], a[1])),
            new Kind("type", row(1, 1, 0, 0, 1), row(5, 100, 30, 10, 100000),
                    (x, a) -> x.type(a[0], a[1], a[2], a[3], a[4]), (x, a) -> x.type(a[0], a[1], a[2], a[3], a[4])),
            new Kind("stops", row(0, 1, 1, 0), row(top, floors, floors, 1),
                    (x, a) -> x.stops(a[0], a[1], a[2], a[3]), (x, a) -> x.stops(a[0], a[1], a[2], a[3])),
            new Kind("highest", row(0, 1, 1, 0), row(top, floors, floors, 1),
                    (x, a) -> x.highest(a[0], a[1], a[2], a[3]), (x, a) -> x.highest(a[0], a[1], a[2], a[3])),
            new Kind("trip", row(0, 1, 1, 0), row(top, floors, floors, 1),
                    (x, a) -> x.trip(a[0], a[1], a[2], a[3]), (x, a) -> x.trip(a[0], a[1], a[2], a[3])),
            new Kind("compare", row(0, 0, 1, 1), row(top, top, floors, floors),
                    (x, a) -> x.compare(a[0], a[1], a[2], a[3]), (x, a) -> x.compare(a[0], a[1], a[2], a[3])),
            new Kind("carried", row(1, 0), row(6, top),
                    (x, a) -> x.carried(a[0], a[1]), (x, a) -> x.carried(a[0], a[1])),
            new Kind("cheapest", row(0), row(Integer.MAX_VALUE),
                    (x, a) -> x.cheapest(a[0]), (x, a) -> x.cheapest(a[0])),
            new Kind("split", row(0, 1, 0), row(top, 4, 3),
                    (x, a) -> x.split(a[0], a[1], a[2]), (x, a) -> x.split(a[0], a[1], a[2])),
            new Kind("out", row(1), row(50),
                    (x, a) -> x.out(a[0]), (x, a) -> x.out(a[0])),
            new Kind("there", row(1, 1, 0), row(50, floors, 1000),
                    (x, a) -> x.there(a[0], a[1], a[2]), (x, a) -> x.there(a[0], a[1], a[2])),
            new Kind("crowd", row(1, 1), row(50, floors),
                    (x, a) -> x.crowd(a[0], a[1]), (x, a) -> x.crowd(a[0], a[1]))};
    }

    static Kind named(String name, int floors, int types) {
        for (Kind kind : in(floors, types)) {
            if (kind.name.equals(name)) {
                return kind;
            }
        }
        throw new IllegalArgumentException(name);
    }

    String with(int[] a) {
        return name + Arrays.toString(a).replace('[', '(').replace(']', ')');
    }

    private static int[] row(int... numbers) {
        return numbers;
    }
}
