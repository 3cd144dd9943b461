import java.util.Arrays;

/** What the document says for all calls: bounds of every number, the exception that is named first, refused calls. */
public final class AllCallsTest {
    private static final int LEAST = Integer.MIN_VALUE;
    private static final int GREATEST = Integer.MAX_VALUE;
    private static final int CALLS_OF_AN_OBJECT = 400;

    public static void main(String[] args) {
        outOfBounds("new", RoundTrips::new, 0, 0);
        outOfBounds("no floors", House::withoutFloors, 0, 1);
        outOfBounds("small", House::small, 3, 2);
        outOfBounds("full", House::full, 12, 6);
        leastAndMost();
        argumentBeforeState();
        everyEdge();
        Check.end();
    }

    /** Each number alone just outside its bounds or far from them, the others at their least, their most, or wrong. */
    private static void outOfBounds(String state, Check.Maker maker, int floors, int types) {
        Check.sentence("In all calls illegal argument: a number is out of its bounds, there is no such floor, type.");
        for (Kind kind : Kind.in(floors, types)) {
            for (int place = 0; place < kind.least.length; place++) {
                int[] wrong = {kind.least[place] - 1, kind.most[place] + 1, LEAST, LEAST + 1, GREATEST - 1, GREATEST};
                int[] allWrong = new int[kind.least.length];
                for (int number : wrong) {
                    if (number >= kind.least[place] && number <= kind.most[place]) {
                        continue;
                    }
                    Arrays.fill(allWrong, number);
                    int[][] rests = {kind.least, kind.most, allWrong};
                    for (int[] rest : rests) {
                        int[] a = rest.clone();
                        a[place] = number;
                        Check.refusedArgument(state + ": " + kind.with(a), maker, x -> kind.real.ask(x, a));
                    }
                }
            }
        }
    }

    /** The numbers at the bounds themselves are answered. */
    private static void leastAndMost() {
        Check.sentence("In all calls illegal argument: a number is out of its bounds, there is no such floor, type.");
        for (Kind kind : Kind.in(5, 2)) {
            int[][] rows = {kind.least, kind.most};
            for (int[] a : rows) {
                RoundTrips x = new RoundTrips();
                Model model = new Model();
                for (int floor = 1; floor <= 5; floor++) {
                    x.floor(0, 10 * floor);
                    model.floor(0, 10 * floor);
                }
                for (int type = 1; type <= 2; type++) {
                    x.type(type, 10, 1, 1, 10);
                    model.type(type, 10, 1, 1, 10);
                }
                Check.answers(kind.with(a), () -> kind.real.ask(x, a), kind.due.ask(model, a));
            }
        }
    }

    /** Right numbers bring the illegal state; one wrong number among them brings the illegal argument instead. */
    private static void argumentBeforeState() {
        Check.sentence("Of several exceptions the one named first is thrown");
        stateThenArguments("floor", House::full, 12, 6, 1, 10);
        stateThenArguments("floor", () -> House.of(200), 1, 0, 1, 10);
        stateThenArguments("floor", () -> House.empty(12), 12, 0, 0, 100);
        stateThenArguments("persons", () -> House.of(200, 0), 2, 0, 2, 1);
        stateThenArguments("persons", House::full, 12, 6, 12, 200);
        stateThenArguments("type", House::full, 12, 6, 1, 1, 0, 0, 1);
        stateThenArguments("carried", House::withoutFloors, 0, 1, 1, 0);
        stateThenArguments("cheapest", House::withoutFloors, 0, 1, 0);
        stateThenArguments("cheapest", RoundTrips::new, 0, 0, 0);
        stateThenArguments("split", House::withoutFloors, 0, 1, 0, 1, 0);
        stateThenArguments("split", House::small, 3, 2, 1, 4, 3);
    }

    private static void stateThenArguments(String name, Check.Maker maker, int floors, int types, int... right) {
        Kind kind = Kind.named(name, floors, types);
        Check.refusedState(kind.with(right), maker, x -> kind.real.ask(x, right));
        for (int place = 0; place < right.length; place++) {
            int[] wrong = {kind.least[place] - 1, kind.most[place] + 1};
            for (int number : wrong) {
                if (number >= kind.least[place] && number <= kind.most[place]) {
                    continue;
                }
                int[] a = right.clone();
                a[place] = number;
                Check.refusedArgument(kind.with(a), maker, x -> kind.real.ask(x, a));
            }
        }
    }

    /** All rows of edges as arguments of each call, compared with the model: nothing else is ever thrown. */
    private static void everyEdge() {
        Check.sentence("Illegal state: as told.");
        int[] edges = {LEAST, -1, 0, 1, 2, 3, 4, 5, 6, 12, 13, 50, 51, 200, 201, 1000, 1001, GREATEST};
        int[] fewer = {LEAST, -1, 0, 1, 3, 5, 6, 10, 11, GREATEST};
        for (Kind kind : Kind.in(3, 2)) {
            everyRow(kind, kind.least.length < 4 ? edges : fewer);
        }
    }

    private static void everyRow(Kind kind, int[] edges) {
        int places = kind.least.length;
        int rows = 1;
        for (int place = 0; place < places; place++) {
            rows *= edges.length;
        }
        RoundTrips x = null;
        Model model = null;
        for (int row = 0; row < rows; row++) {
            if (row % CALLS_OF_AN_OBJECT == 0) {
                x = House.small();
                model = smallModel();
            }
            int[] a = new int[places];
            for (int place = 0, rest = row; place < places; place++, rest /= edges.length) {
                a[place] = edges[rest % edges.length];
            }
            RoundTrips asked = x;
            Model due = model;
            Check.same(kind.with(a), Check.answerOf(() -> kind.real.ask(asked, a)),
                    Check.answerOf(() -> kind.due.ask(due, a)));
        }
    }

    /** As House.small(). */
    private static Model smallModel() {
        Model model = new Model();
        model.floor(10, 30);
        model.floor(20, 45);
        model.floor(30, 25);
        model.type(3, 20, 4, 1, 1000);
        model.type(2, 15, 6, 2, 700);
        return model;
    }
}
