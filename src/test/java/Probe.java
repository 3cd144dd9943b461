/**
 * All that an object answers, as one text: it is read with every call, then filled up to its bounds, then read again.
 * Two objects in the same state give the same text. A probe makes some 200 calls; an object serves for 512.
 */
final class Probe {
    static final int MOST_CALLS = 250;

    private final RoundTrips x;
    private final StringBuilder text = new StringBuilder();
    private int calls = 0;

    private Probe(RoundTrips x) {
        this.x = x;
    }

    static String answersOf(RoundTrips x) {
        Probe probe = new Probe(x);
        probe.read();
        probe.fill();
        probe.read();
        if (probe.calls > MOST_CALLS) {
            throw new AssertionError("a probe of " + probe.calls + " calls");
        }
        return probe.text.toString();
    }

    private void read() {
        int floors = 0;
        for (int floor = 1; floor <= 13; floor++) {
            int f = floor;
            if (!add("there", () -> x.there(1, f, 0)).startsWith("throws")) {
                floors = f;
            }
        }
        for (int type = 0; type < 7; type++) {
            readType(type, Math.max(1, floors));
        }
        for (int floor = 1; floor <= floors; floor++) {
            int f = floor;
            add("highest", () -> x.highest(0, f, f, 0));
            add("crowd", () -> x.crowd(3, f));
        }
        int top = floors;
        add("stops", () -> x.stops(0, 1, top, 0));
        add("stops", () -> x.stops(0, 1, top, 1));
        add("there", () -> x.there(2, 1, 3));
        add("out", () -> x.out(1));
        add("cheapest", () -> x.cheapest(0));
        add("cheapest", () -> x.cheapest(40));
        text.append('\n');
    }

    private void readType(int type, int top) {
        add("trip", () -> x.trip(type, 1, top, 0));
        add("trip", () -> x.trip(type, 1, top, 1));
        add("compare", () -> x.compare(type, 0, 1, top));
        add("carried", () -> x.carried(5, type));
        add("split", () -> x.split(type, 2, 0));
        add("split", () -> x.split(type, 4, 1));
    }

    /** Floors and types until there are no more, and as many persons as there may be. */
    private void fill() {
        int everybody = 0;
        for (int floor = 1; floor <= 13; floor++) {
            add("floor", () -> x.floor(0, 10));
        }
        for (int floor = 1; floor <= 12; floor++) {
            everybody += x.there(1, floor, 0);
            calls++;
        }
        int most = 200 - everybody + x.there(1, 1, 0);
        calls++;
        add("persons", () -> x.persons(1, most + 1));
        add("persons", () -> x.persons(1, most));
        add("persons", () -> x.persons(2, 0));
        for (int type = 0; type < 7; type++) {
            int speed = type + 1;
            add("type", () -> x.type(2, speed, 1, 1, 10));
        }
        text.append('\n');
    }

    private String add(String name, Check.Call call) {
        calls++;
        String answer = Check.answerOf(call);
        text.append(name).append(' ').append(answer).append(' ');
        return answer;
    }
}
