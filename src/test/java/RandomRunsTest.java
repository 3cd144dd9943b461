import java.util.Arrays;
import java.util.Random;

/** Long runs of calls, right and wrong ones, each compared with the model. The seeds are fixed: no run differs. */
public final class RandomRunsTest {
    private static final int RUNS = 60;
    private static final int CALLS = 512;
    private static final int[] EDGES = {
        -1, 0, 1, 2, 5, 6, 7, 9, 10, 11, 12, 13, 30, 31, 50, 51, 100, 101, 200, 201, 1000, 1001, 100000, 100001,
        Integer.MIN_VALUE, Integer.MAX_VALUE};

    private final Random random;
    private final RoundTrips real = new RoundTrips();
    private final Model model = new Model();
    private final int run;
    private final int mostFloors;
    private final int mostPersons;
    private int floors = 0;
    private int types = 0;

    private RandomRunsTest(int run) {
        this.run = run;
        random = new Random(run);
        // The model goes through floors to the power of the room, so tall buildings stay few.
        mostFloors = run % 10 == 0 ? 12 : 1 + run % 8;
        mostPersons = run % 3 == 0 ? 2 : 200 / mostFloors;
    }

    public static void main(String[] args) {
        for (int run = 0; run < RUNS; run++) {
            RandomRunsTest test = new RandomRunsTest(run);
            int early = run % 2 == 0 ? 40 : 0;
            int calls = run % 10 == 0 ? 150 : CALLS;
            for (int call = 0; call < calls; call++) {
                test.oneCall(call < early ? 3 : 20);
            }
        }
        Check.end();
    }

    /** The first three kinds build; runs that begin with these alone have more to answer for. */
    private void oneCall(int kinds) {
        int kind = random.nextInt(kinds);
        if (kind < 3) {
            change(kind);
        } else if (kind < 11) {
            odds(kind);
        } else if (kind < 14) {
            groups(kind);
        } else if (kind < 16) {
            int type = aType();
            int k = some(1, 4);
            int j = some(0, 3);
            both("split", new int[] {type, k, j}, () -> real.split(type, k, j), () -> model.split(type, k, j));
        } else {
            stairs(kind);
        }
    }

    private void change(int kind) {
        if (kind == 0) {
            int persons = some(0, mostPersons);
            int storey = some(10, random.nextBoolean() ? 11 : 100);
            if (floors < mostFloors || mostFloors == 12) {
                both("floor", new int[] {persons, storey},
                        () -> floors = real.floor(persons, storey), () -> model.floor(persons, storey));
            }
        } else if (kind == 1) {
            int floor = aFloor();
            int n = random.nextInt(4) == 0 ? 0 : some(0, mostPersons);
            both("persons", new int[] {floor, n}, () -> real.persons(floor, n), () -> model.persons(floor, n));
        } else {
            int room = some(1, 5);
            int speed = some(1, 100);
            int doors = random.nextInt(4) == 0 ? 0 : some(0, 30);
            int people = random.nextInt(4) == 0 ? 0 : some(0, 10);
            int cents = some(1, random.nextBoolean() ? 6 : 100000);
            both("type", new int[] {room, speed, doors, people, cents},
                    () -> (types = 1 + real.type(room, speed, doors, people, cents)) - 1,
                    () -> model.type(room, speed, doors, people, cents));
        }
    }

    private void odds(int kind) {
        int type = aType();
        int other = aType();
        int from = aFloor();
        int to = random.nextInt(3) == 0 ? aFloor() : some(Math.max(1, Math.min(from, floors)), floors);
        int part = some(0, 1);
        int[] args = {type, from, to, part};
        if (kind < 5) {
            both("stops", args, () -> real.stops(type, from, to, part), () -> model.stops(type, from, to, part));
        } else if (kind < 7) {
            both("highest", args,
                    () -> real.highest(type, from, to, part), () -> model.highest(type, from, to, part));
        } else if (kind < 9) {
            both("trip", args, () -> real.trip(type, from, to, part), () -> model.trip(type, from, to, part));
        } else {
            both("compare", new int[] {type, other, from, to},
                    () -> real.compare(type, other, from, to), () -> model.compare(type, other, from, to));
        }
    }

    private void groups(int kind) {
        if (kind == 11) {
            int cars = some(1, 6);
            int type = aType();
            both("carried", new int[] {cars, type}, () -> real.carried(cars, type), () -> model.carried(cars, type));
        } else {
            int persons = some(0, random.nextBoolean() ? 60 : 500);
            both("cheapest", new int[] {persons}, () -> real.cheapest(persons), () -> model.cheapest(persons));
        }
    }

    private void stairs(int kind) {
        int width = random.nextInt(3) > 0 ? some(1, 4) : some(1, 50);
        int floor = aFloor();
        int seconds = random.nextInt(3) > 0 ? some(0, 40) : some(0, 1000);
        if (kind == 16) {
            both("out", new int[] {width}, () -> real.out(width), () -> model.out(width));
        } else if (kind == 17) {
            both("crowd", new int[] {width, floor}, () -> real.crowd(width, floor), () -> model.crowd(width, floor));
        } else {
            both("there", new int[] {width, floor, seconds},
                    () -> real.there(width, floor, seconds), () -> model.there(width, floor, seconds));
        }
    }

    private void both(String name, int[] args, Check.Call got, Check.Call due) {
        Check.same("run " + run + ": " + name + Arrays.toString(args),
                Check.answerOf(got), Check.answerOf(due));
    }

    private int aFloor() {
        return some(1, floors);
    }

    private int aType() {
        return some(0, types - 1);
    }

    /** Mostly a number within the bounds, now and then an edge of any bounds. */
    private int some(int least, int most) {
        if (least > most || random.nextInt(40) == 0) {
            return EDGES[random.nextInt(EDGES.length)];
        }
        return least + random.nextInt(most - least + 1);
    }
}
