/** Promises 12 to 14, sentence by sentence: the narrowest and widest stairs, nobody, first and last seconds. */
public final class StairsEdgesTest {
    private static final int LEAST = Integer.MIN_VALUE;
    private static final int GREATEST = Integer.MAX_VALUE;

    public static void main(String[] args) {
        asManyAsTheWidth();
        wrongWidths();
        fromFloorOneOut();
        goesOnInALaterOne();
        untilAllAreOut();
        nobodyInTheHouse();
        noFloors();
        secondsFromNone();
        secondsUpTo1000();
        wrongSeconds();
        theMostAtFirst();
        theMostAtAnEnd();
        notTheMostWithinASecond();
        noSuchFloor();
        allBeginAnew();
        Check.end();
    }

    private static void asManyAsTheWidth() {
        Check.sentence("as many as the WIDTH (1 .. 50) go to the floor below");
        RoundTrips x = House.of(0, 51);
        Check.answers("width 50: 50 have come", () -> x.there(50, 1, 1), 50);
        Check.answers("width 50: one is left", () -> x.there(50, 2, 1), 1);
        Check.answers("width 1: one has come", () -> x.there(1, 1, 1), 1);
        Check.answers("width 1: 50 are left", () -> x.there(1, 2, 1), 50);
        Check.answers("width 50: 51 take two seconds a floor", () -> x.out(50), 3);
        Check.answers("width 1: one a second", () -> x.out(1), 52);
        x.persons(2, 50);
        Check.answers("width 50: 50 go at once", () -> x.there(50, 2, 1), 0);
        Check.answers("width 49: not all of 50 do", () -> x.there(49, 2, 1), 1);
        Check.answers("width 50: 50 are out behind two", () -> x.out(50), 2);
        x.persons(2, 3);
        Check.answers("fewer than the width: no more than there are", () -> x.there(50, 1, 1), 3);
    }

    private static void wrongWidths() {
        Check.sentence("as many as the WIDTH (1 .. 50) go to the floor below");
        int[] wrong = {0, 51, -1, LEAST, GREATEST};
        for (int width : wrong) {
            Check.refusedArgument("out(" + width + ")", House::small, x -> x.out(width));
            Check.refusedArgument("there(" + width + ", 1, 0)", House::small, x -> x.there(width, 1, 0));
            Check.refusedArgument("crowd(" + width + ", 1)", House::small, x -> x.crowd(width, 1));
            Check.refusedArgument("new: out(" + width + ")", RoundTrips::new, x -> x.out(width));
        }
        RoundTrips x = House.small();
        Check.answers("out(1)", () -> x.out(1), 60);
        Check.answers("out(50)", () -> x.out(50), 3);
        Check.answers("crowd(1, 1)", () -> x.crowd(1, 1), 10);
        Check.answers("crowd(50, 1)", () -> x.crowd(50, 1), 30);
    }

    private static void fromFloorOneOut() {
        Check.sentence("or out (from floor 1)");
        RoundTrips x = House.of(120);
        Check.answers("120 at first", () -> x.there(50, 1, 0), 120);
        Check.answers("50 are out", () -> x.there(50, 1, 1), 70);
        Check.answers("100 are out", () -> x.there(50, 1, 2), 20);
        Check.answers("120 are out", () -> x.there(50, 1, 3), 0);
        Check.answers("out(50)", () -> x.out(50), 3);
        Check.answers("out(1)", () -> x.out(1), 120);
    }

    private static void goesOnInALaterOne() {
        Check.sentence("who came in this second goes on in a later one");
        RoundTrips x = House.of(0, 0, 0, 0, 0, 0, 0, 0, 0, 0, 0, 5);
        for (int second = 0; second <= 12; second++) {
            int s = second;
            for (int floor = 1; floor <= 12; floor++) {
                int f = floor;
                Check.answers("floor " + f + " behind " + s, () -> x.there(50, f, s), f + s == 12 ? 5 : 0);
            }
        }
        Check.answers("a floor a second", () -> x.out(50), 12);
        RoundTrips two = House.of(1, 2);
        // Who comes to floor 1 does not go out with the one who was there, though the stairs have room.
        Check.answers("both of floor 2 have come", () -> two.there(3, 1, 1), 2);
        Check.answers("and go out behind the other one", () -> two.out(3), 2);
    }

    private static void untilAllAreOut() {
        Check.sentence("How many seconds it takes until all are out.");
        Check.answers("one person at floor 1", () -> House.of(1).out(1), 1);
        Check.answers("200 at floor 1 by 1", () -> House.of(200).out(1), 200);
        Check.answers("200 at floor 1 by 50", () -> House.of(200).out(50), 4);
        RoundTrips x = House.of(0, 0, 0, 0, 0, 0, 0, 0, 0, 0, 0, 200);
        Check.answers("200 at floor 12 by 1", () -> x.out(1), 211);
        Check.answers("200 at floor 12 by 50", () -> x.out(50), 15);
        Check.answers("200 at floor 12 by 49", () -> x.out(49), 16);
        Check.answers("the last one is at floor 1", () -> x.there(1, 1, 210), 1);
        Check.answers("the last one is out", () -> x.there(1, 1, 211), 0);
        RoundTrips gap = House.of(1, 0, 0, 1);
        Check.answers("seconds in which nobody goes out count", () -> gap.out(1), 4);
        Check.answers("a full house by 1", () -> House.full().out(1), 200);
        Check.answers("a full house by 50", () -> House.full().out(50), 12);
    }

    private static void nobodyInTheHouse() {
        Check.sentence("How many seconds it takes until all are out.");
        RoundTrips x = House.empty(12);
        Check.answers("out(1)", () -> x.out(1), 0);
        Check.answers("out(50)", () -> x.out(50), 0);
        for (int floor = 1; floor <= 12; floor++) {
            int f = floor;
            Check.answers("nobody at floor " + f + " at first", () -> x.there(1, f, 0), 0);
            Check.answers("nobody at floor " + f + " behind 1000", () -> x.there(1, f, 1000), 0);
            Check.answers("no crowd at floor " + f, () -> x.crowd(1, f), 0);
        }
        x.persons(7, 1);
        Check.answers("somebody comes", () -> x.out(1), 7);
        x.persons(7, 0);
        Check.answers("and has gone", () -> x.out(1), 0);
    }

    private static void noFloors() {
        Check.sentence("No floors, no types.");
        RoundTrips x = new RoundTrips();
        Check.answers("out(1)", () -> x.out(1), 0);
        Check.answers("out(50)", () -> x.out(50), 0);
        Check.illegalArgument("there(1, 1, 0)", () -> x.there(1, 1, 0));
        Check.illegalArgument("crowd(1, 1)", () -> x.crowd(1, 1));
    }

    private static void secondsFromNone() {
        Check.sentence("all persons of all floors begin to go down at second 0");
        RoundTrips x = House.full();
        for (int floor = 1; floor <= 12; floor++) {
            int f = floor;
            Check.answers("at floor " + f + " behind 0", () -> x.there(1, f, 0), f == 12 ? 35 : 15);
            Check.answers("at floor " + f + " behind 1", () -> x.there(1, f, 1), f == 12 ? 34 : 15);
        }
    }

    private static void secondsUpTo1000() {
        Check.sentence("How many are at a floor behind so many seconds (0 .. 1000).");
        RoundTrips x = House.of(200);
        Check.answers("behind 0", () -> x.there(1, 1, 0), 200);
        Check.answers("behind 1", () -> x.there(1, 1, 1), 199);
        Check.answers("behind 199", () -> x.there(1, 1, 199), 1);
        Check.answers("behind 200", () -> x.there(1, 1, 200), 0);
        Check.answers("behind 201", () -> x.there(1, 1, 201), 0);
        Check.answers("behind 999", () -> x.there(1, 1, 999), 0);
        Check.answers("behind 1000", () -> x.there(1, 1, 1000), 0);
    }

    private static void wrongSeconds() {
        Check.sentence("How many are at a floor behind so many seconds (0 .. 1000).");
        int[] wrong = {-1, 1001, LEAST, GREATEST};
        for (int seconds : wrong) {
            Check.refusedArgument("there(1, 1, " + seconds + ")", House::small, x -> x.there(1, 1, seconds));
            Check.refusedArgument("nobody: there(1, 1, " + seconds + ")", () -> House.empty(1),
                    x -> x.there(1, 1, seconds));
        }
    }

    private static void theMostAtFirst() {
        Check.sentence("The most that ever are at a floor (at the ends of seconds, or at first).");
        RoundTrips x = House.of(9, 4, 200 - 13);
        Check.answers("floor 3 is fullest at first", () -> x.crowd(1, 3), 187);
        Check.answers("floor 3, wide stairs", () -> x.crowd(50, 3), 187);
        Check.answers("floor 1, as many come as go", () -> x.crowd(1, 1), 9);
        Check.answers("one person, wide stairs", () -> House.of(1).crowd(50, 1), 1);
        Check.answers("all at floor 1", () -> House.of(200).crowd(50, 1), 200);
    }

    private static void theMostAtAnEnd() {
        Check.sentence("The most that ever are at a floor (at the ends of seconds, or at first).");
        RoundTrips x = House.of(9, 4, 187);
        Check.answers("floor 2 fills", () -> x.crowd(50, 2), 50);
        Check.answers("floor 1 fills", () -> x.crowd(50, 1), 50);
        Check.answers("floor 1, narrower", () -> x.crowd(10, 1), 10);
        RoundTrips late = House.of(0, 0, 0, 0, 0, 0, 0, 0, 0, 0, 0, 1);
        Check.answers("floor 1 in the 11th second", () -> late.crowd(1, 1), 1);
        RoundTrips once = House.of(0, 2, 0, 7);
        Check.answers("floor 1: two, nobody, seven", () -> once.crowd(50, 1), 7);
        Check.answers("floor 2: two, nobody, seven", () -> once.crowd(50, 2), 7);
        Check.answers("floor 3: nobody, seven", () -> once.crowd(50, 3), 7);
    }

    private static void notTheMostWithinASecond() {
        Check.sentence("at the ends of seconds, or at first");
        RoundTrips x = House.of(5, 5, 5);
        // Five come while five go: never ten at once.
        Check.answers("floor 1", () -> x.crowd(5, 1), 5);
        Check.answers("floor 2", () -> x.crowd(5, 2), 5);
        Check.answers("floor 1, wider", () -> x.crowd(50, 1), 5);
        RoundTrips rest = House.of(8, 5);
        Check.answers("three are left and five come", () -> rest.crowd(5, 1), 8);
        Check.answers("behind one second", () -> rest.there(5, 1, 1), 8);
    }

    private static void noSuchFloor() {
        Check.sentence("there is no such floor");
        int[] wrong = {0, -1, 4, 12, 13, LEAST, GREATEST};
        for (int floor : wrong) {
            Check.refusedArgument("there(1, " + floor + ", 0)", House::small, x -> x.there(1, floor, 0));
            Check.refusedArgument("there(1, " + floor + ", 1000)", House::small, x -> x.there(1, floor, 1000));
            Check.refusedArgument("crowd(1, " + floor + ")", House::small, x -> x.crowd(1, floor));
        }
        RoundTrips full = House.full();
        Check.answers("the 12th of twelve", () -> full.crowd(1, 12), 35);
        Check.illegalArgument("the 13th of twelve", () -> full.crowd(1, 13));
        Check.illegalArgument("there: the 13th of twelve", () -> full.there(1, 13, 0));
    }

    private static void allBeginAnew() {
        Check.sentence("all persons of all floors begin to go down at second 0");
        RoundTrips x = House.of(6, 6);
        Check.answers("once", () -> x.out(1), 12);
        Check.answers("and again", () -> x.out(1), 12);
        Check.answers("behind 3", () -> x.there(1, 2, 3), 3);
        Check.answers("behind 0 again", () -> x.there(1, 2, 0), 6);
        Check.answers("crowd", () -> x.crowd(6, 1), 6);
        Check.answers("nobody has left the house", () -> x.persons(2, 6), 6);
        x.floor(1, 10);
        Check.answers("one more floor and person", () -> x.out(1), 13);
    }
}
