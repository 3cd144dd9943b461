/** Promises 12 to 14: out, there, crowd. */
public final class StairsTest {
    public static void main(String[] args) {
        twoFloors();
        alone();
        longest();
        jams();
        nobody();
        nothingIsMoved();
        wrongInputs();
        Check.end();
    }

    private static void twoFloors() {
        RoundTrips x = new RoundTrips();
        x.floor(2, 10);
        x.floor(3, 10);
        row(x, 1, 1, 2, 2, 2, 2, 1, 0, 0);
        row(x, 1, 2, 3, 2, 1, 0, 0);
        row(x, 2, 1, 2, 2, 1, 0, 0);
        row(x, 2, 2, 3, 1, 0, 0);
        row(x, 3, 1, 2, 3, 0, 0);
        row(x, 3, 2, 3, 0, 0);
        Check.answers("out(1)", () -> x.out(1), 5);
        Check.answers("out(2)", () -> x.out(2), 3);
        Check.answers("out(3)", () -> x.out(3), 2);
        Check.answers("out(50)", () -> x.out(50), 2);
        Check.answers("crowd(1, 1)", () -> x.crowd(1, 1), 2);
        Check.answers("crowd(2, 1)", () -> x.crowd(2, 1), 2);
        Check.answers("crowd(3, 1)", () -> x.crowd(3, 1), 3);
        Check.answers("crowd(3, 2)", () -> x.crowd(3, 2), 3);
    }

    private static void alone() {
        RoundTrips x = new RoundTrips();
        for (int i = 1; i <= 12; i++) {
            x.floor(i == 12 ? 1 : 0, 10);
        }
        Check.answers("a floor a second", () -> x.out(50), 12);
        for (int second = 0; second <= 13; second++) {
            for (int floor = 1; floor <= 12; floor++) {
                int s = second;
                int f = floor;
                Check.answers("alone: there(50, " + f + ", " + s + ")", () -> x.there(50, f, s), f + s == 12 ? 1 : 0);
            }
        }
        Check.answers("once at each floor", () -> x.crowd(50, 1), 1);
        Check.answers("the ground is no crowd's floor", () -> x.there(1, 1, 12), 0);
    }

    private static void longest() {
        RoundTrips x = new RoundTrips();
        for (int i = 1; i <= 12; i++) {
            x.floor(i == 12 ? 200 : 0, 10);
        }
        Check.answers("longest: out(1)", () -> x.out(1), 211);
        Check.answers("longest: the last one", () -> x.there(1, 1, 210), 1);
        Check.answers("longest: behind the last one", () -> x.there(1, 1, 211), 0);
        Check.answers("longest: out(50)", () -> x.out(50), 15);
        Check.answers("longest: crowd(50, 1)", () -> x.crowd(50, 1), 50);
        Check.answers("longest: crowd(50, 12)", () -> x.crowd(50, 12), 200);
        Check.answers("longest: behind 1000", () -> x.there(1, 12, 1000), 0);
    }

    /** An empty second between two crowds, and a floor that is fullest later on. */
    private static void jams() {
        RoundTrips x = new RoundTrips();
        x.floor(0, 10);
        x.floor(4, 10);
        x.floor(9, 10);
        row(x, 5, 1, 0, 4, 5, 4, 0, 0);
        row(x, 5, 2, 4, 5, 4, 0, 0);
        row(x, 5, 3, 9, 4, 0, 0);
        Check.answers("jams: out(5)", () -> x.out(5), 4);
        Check.answers("jams: crowd(5, 1)", () -> x.crowd(5, 1), 5);
        Check.answers("jams: crowd(5, 2)", () -> x.crowd(5, 2), 5);
        Check.answers("jams: crowd(4, 2)", () -> x.crowd(4, 2), 4);
        Check.answers("jams: crowd(50, 1)", () -> x.crowd(50, 1), 9);
        x.persons(2, 0);
        Check.answers("jams: nobody between", () -> x.out(5), 4);
    }

    private static void nobody() {
        RoundTrips x = new RoundTrips();
        Check.answers("no floor: out(1)", () -> x.out(1), 0);
        Check.answers("no floor: out(50)", () -> x.out(50), 0);
        x.floor(0, 10);
        Check.answers("nobody: out(1)", () -> x.out(1), 0);
        Check.answers("nobody: there(1, 1, 0)", () -> x.there(1, 1, 0), 0);
        Check.answers("nobody: crowd(1, 1)", () -> x.crowd(1, 1), 0);
    }

    private static void nothingIsMoved() {
        RoundTrips x = new RoundTrips();
        x.floor(6, 10);
        x.floor(6, 10);
        x.out(1);
        x.crowd(1, 1);
        x.there(1, 1, 1000);
        Check.answers("all are still there", () -> x.persons(1, 6), 6);
        Check.answers("a second walk is the same", () -> x.out(1), 12);
        x.persons(1, 1);
        Check.answers("fewer persons, a new walk", () -> x.out(1), 7);
        x.floor(3, 10);
        Check.answers("more floors, a new walk", () -> x.out(1), 10);
    }

    private static void wrongInputs() {
        RoundTrips x = new RoundTrips();
        x.floor(6, 10);
        x.floor(6, 10);
        int[] wrongWidths = {Integer.MIN_VALUE, -1, 0, 51, Integer.MAX_VALUE};
        for (int width : wrongWidths) {
            Check.illegalArgument("out(" + width + ")", () -> x.out(width));
            Check.illegalArgument("there(" + width + ", 1, 0)", () -> x.there(width, 1, 0));
            Check.illegalArgument("crowd(" + width + ", 1)", () -> x.crowd(width, 1));
        }
        int[] noFloors = {Integer.MIN_VALUE, -1, 0, 3, 12, 13, Integer.MAX_VALUE};
        for (int floor : noFloors) {
            Check.illegalArgument("there(1, " + floor + ", 0)", () -> x.there(1, floor, 0));
            Check.illegalArgument("crowd(1, " + floor + ")", () -> x.crowd(1, floor));
        }
        int[] wrongSeconds = {Integer.MIN_VALUE, -1, 1001, Integer.MAX_VALUE};
        for (int seconds : wrongSeconds) {
            Check.illegalArgument("there(1, 1, " + seconds + ")", () -> x.there(1, 1, seconds));
        }
    }

    /** How many are at a floor at first, behind one second, and so on. */
    private static void row(RoundTrips x, int width, int floor, int... due) {
        for (int seconds = 0; seconds < due.length; seconds++) {
            int s = seconds;
            Check.answers("there(" + width + ", " + floor + ", " + s + ")", () -> x.there(width, floor, s), due[s]);
        }
    }
}
