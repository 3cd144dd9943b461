/**
 * Lifts sized by exact odds, groups of cars, floors split into zones, and a crowd on the stairs.
 * The promises that the calls keep stand in the document, DOC.md.
 */
public final class RoundTrips {
    /** There is none. */
    public static final int NONE = -1;

    private static final int MOST_FLOORS = 12;
    private static final int MOST_PERSONS = 200;
    private static final int LEAST_STOREY = 10;
    private static final int MOST_STOREY = 100;

    private static final int MOST_TYPES = 6;
    private static final int MOST_ROOM = 5;
    private static final int MOST_SPEED = 100;
    private static final int MOST_DOORS = 30;
    private static final int MOST_PEOPLE = 10;
    private static final int MOST_CENTS = 100000;

    private static final int MOST_CARS = 6;
    private static final int FIVE_MINUTES = 300;
    private static final int MOST_ZONES = 4;
    private static final int MOST_WIDTH = 50;

    private static final int MOST_SECONDS = 1000;

    // 200 persons behind one another, down 12 floors, are out within 211 seconds.
    private static final int STAIRS_EMPTY_BY = 1000;

    // Euclid's steps on two longs are fewer than 100.
    private static final int MOST_STEPS = 100;

    private final Building building;
    private final CarType[] types;
    private int typeCount;
    private final Odds odds;
    private final Splits splits;
    private final Stairs stairs;

    public RoundTrips() {
        building = new Building();
        types = new CarType[MOST_TYPES];
        typeCount = 0;
        odds = new Odds();
        splits = new Splits();
        stairs = new Stairs();
    }

    public int floor(int persons, int storey) throws IllegalArgumentException, IllegalStateException {
        requireWithin(persons, 0, MOST_PERSONS);
        requireWithin(storey, LEAST_STOREY, MOST_STOREY);
        if (building.floors >= MOST_FLOORS) {
            throw new IllegalStateException("there are 12 floors");
        }
        requireRoomForAll(building.everybody + persons);
        return building.addFloor(persons, storey);
    }

    public int persons(int floor, int n) throws IllegalArgumentException, IllegalStateException {
        requireFloor(floor);
        requireWithin(n, 0, MOST_PERSONS);
        int before = building.personsOf[floor];
        requireRoomForAll(building.everybody - before + n);
        building.personsOf[floor] = n;
        building.everybody += n - before;
        return before;
    }

    public int type(int room, int speed, int doors, int people, int cents)
            throws IllegalArgumentException, IllegalStateException {
        requireWithin(room, 1, MOST_ROOM);
        requireWithin(speed, 1, MOST_SPEED);
        requireWithin(doors, 0, MOST_DOORS);
        requireWithin(people, 0, MOST_PEOPLE);
        requireWithin(cents, 1, MOST_CENTS);
        int number = typeCount;
        if (number >= MOST_TYPES) {
            throw new IllegalStateException("there are 6 types");
        }
        types[number] = new CarType(room, speed, doors, people, cents);
        typeCount = number + 1;
        return number;
    }

    // ---- odds

    public long stops(int type, int from, int to, int part) throws IllegalArgumentException {
        countOdds(type, from, to, part);
        return partInLowestTerms(odds.stopsOfAll, odds.ways, part);
    }

    public long highest(int type, int from, int to, int part) throws IllegalArgumentException {
        countOdds(type, from, to, part);
        return partInLowestTerms(odds.heightsOfAll, odds.ways, part);
    }

    public long trip(int type, int from, int to, int part) throws IllegalArgumentException {
        CarType car = countOdds(type, from, to, part);
        return partInLowestTerms(odds.tripAbove(car), odds.tripBelow(car), part);
    }

    public int compare(int type, int other, int from, int to) throws IllegalArgumentException {
        CarType car = requireType(type);
        CarType otherCar = requireType(other);
        requireZone(from, to);
        odds.count(building, car.room, from, to);
        long above = odds.tripAbove(car);
        long below = odds.tripBelow(car);
        odds.count(building, otherCar.room, from, to);
        return orderOfFractions(above, below, odds.tripAbove(otherCar), odds.tripBelow(otherCar));
    }

    // ---- groups

    public long carried(int cars, int type) throws IllegalArgumentException, IllegalStateException {
        requireWithin(cars, 1, MOST_CARS);
        CarType car = requireType(type);
        requireSomeFloor();
        odds.count(building, car.room, 1, building.floors);
        return odds.carriedBy(cars, car);
    }

    public int cheapest(int persons) throws IllegalArgumentException, IllegalStateException {
        if (persons < 0) {
            throw new IllegalArgumentException("persons is below 0");
        }
        requireSomeFloor();
        int best = NONE;
        int bestCost = 0;
        int bestCars = 0;
        for (int type = 0; type < typeCount; type++) {
            CarType car = requireType(type);
            int cars = fewestCars(car, persons);
            if (cars == NONE) {
                continue;
            }
            int cost = cars * car.cents;
            if (best == NONE || cost < bestCost || cost == bestCost && cars < bestCars) {
                best = 10 * type + cars;
                bestCost = cost;
                bestCars = cars;
            }
        }
        return best;
    }

    // ---- splits

    public int split(int type, int k, int j) throws IllegalArgumentException, IllegalStateException {
        CarType car = requireType(type);
        requireWithin(k, 1, MOST_ZONES);
        requireWithin(j, 0, k - 1);
        if (building.floors < k) {
            throw new IllegalStateException("there are fewer floors than zones");
        }
        splits.measureZones(building, car, odds);
        splits.findBest(building.floors, k);
        return splits.bestEnds[j];
    }

    // ---- stairs

    public int out(int width) throws IllegalArgumentException {
        requireWithin(width, 1, MOST_WIDTH);
        stairs.begin(building);
        int seconds = 0;
        while (seconds < STAIRS_EMPTY_BY && stairs.inside > 0) {
            stairs.oneSecond(building.floors, width);
            seconds++;
        }
        return seconds;
    }

    public int there(int width, int floor, int seconds) throws IllegalArgumentException {
        requireWithin(width, 1, MOST_WIDTH);
        requireFloor(floor);
        requireWithin(seconds, 0, MOST_SECONDS);
        stairs.begin(building);
        for (int second = 0; second < seconds && stairs.inside > 0; second++) {
            stairs.oneSecond(building.floors, width);
        }
        return stairs.at[floor];
    }

    public int crowd(int width, int floor) throws IllegalArgumentException {
        requireWithin(width, 1, MOST_WIDTH);
        requireFloor(floor);
        stairs.begin(building);
        int most = stairs.at[floor];
        for (int second = 0; second < STAIRS_EMPTY_BY && stairs.inside > 0; second++) {
            stairs.oneSecond(building.floors, width);
            most = Math.max(most, stairs.at[floor]);
        }
        return most;
    }

    // ---- what the calls ask for first: each throws what the document names

    private static void requireWithin(int number, int least, int most) {
        if (number < least || number > most) {
            throw new IllegalArgumentException("a number is out of its bounds");
        }
    }

    private void requireFloor(int floor) {
        if (floor < 1 || floor > building.floors) {
            throw new IllegalArgumentException("there is no such floor");
        }
    }

    private void requireZone(int from, int to) {
        requireFloor(from);
        requireFloor(to);
        if (to < from) {
            throw new IllegalArgumentException("a zone ends below its begin");
        }
    }

    private CarType requireType(int type) {
        CarType car = type >= 0 && type < MOST_TYPES ? types[type] : null;
        if (car == null) {
            throw new IllegalArgumentException("there is no such type");
        }
        return car;
    }

    private void requireSomeFloor() {
        if (building.floors == 0) {
            throw new IllegalStateException("there is no floor");
        }
    }

    private static void requireRoomForAll(int everybody) {
        if (everybody > MOST_PERSONS) {
            throw new IllegalStateException("all floors have more than 200 persons together");
        }
    }

    private CarType countOdds(int type, int from, int to, int part) {
        CarType car = requireType(type);
        requireZone(from, to);
        requireWithin(part, 0, 1);
        odds.count(building, car.room, from, to);
        return car;
    }

    /** More cars of a type cost more, so of each type only the fewest that carry enough can be the cheapest. */
    private int fewestCars(CarType car, int persons) {
        odds.count(building, car.room, 1, building.floors);
        for (int cars = 1; cars <= MOST_CARS; cars++) {
            if (odds.carriedBy(cars, car) >= persons) {
                return cars;
            }
        }
        return NONE;
    }

    // ---- fractions: above is never negative, below is positive

    private static long partInLowestTerms(long above, long below, int part) {
        long divisor = commonDivisor(above, below);
        return part == 0 ? above / divisor : below / divisor;
    }

    private static long commonDivisor(long one, long other) {
        long big = one;
        long small = other;
        for (int step = 0; step < MOST_STEPS && small != 0; step++) {
            long rest = big % small;
            big = small;
            small = rest;
        }
        return big > 0 ? big : 1;
    }

    /**
     * -1, 0 or 1: the first fraction is less than, equal to, greater than the second one. Products across could
     * leave the longs' range, so whole parts are compared and then the rests, turned over, the other way round.
     */
    private static int orderOfFractions(long above, long below, long otherAbove, long otherBelow) {
        long a = above;
        long b = below;
        long c = otherAbove;
        long d = otherBelow;
        int sign = 1;
        for (int step = 0; step < MOST_STEPS && b != 0 && d != 0; step++) {
            long whole = a / b;
            long otherWhole = c / d;
            if (whole != otherWhole) {
                return whole < otherWhole ? -sign : sign;
            }
            long rest = a - whole * b;
            long otherRest = c - otherWhole * d;
            a = b;
            b = rest;
            c = d;
            d = otherRest;
            sign = -sign;
        }
        // A rest of nothing, turned over, is greater than all.
        if (b == 0) {
            return d == 0 ? 0 : sign;
        }
        return -sign;
    }

    /** The floors from 1 on; row places 0 are the ground. */
    private static final class Building {
        final int[] personsOf = new int[MOST_FLOORS + 1];
        final int[] heightOf = new int[MOST_FLOORS + 1];
        int floors;
        int everybody;

        int addFloor(int persons, int storey) {
            int number = floors + 1;
            if (number <= MOST_FLOORS) {
                personsOf[number] = persons;
                heightOf[number] = heightOf[number - 1] + storey;
                floors = number;
                everybody += persons;
            }
            return number;
        }

        int personsBetween(int from, int to) {
            int sum = 0;
            for (int floor = from; floor <= to; floor++) {
                sum += personsOf[floor];
            }
            return sum;
        }
    }

    private static final class CarType {
        final int room;
        final int speed;
        final int doors;
        final int people;
        final int cents;

        CarType(int room, int speed, int doors, int people, int cents) {
            this.room = room;
            this.speed = speed;
            this.doors = doors;
            this.people = people;
            this.cents = cents;
        }
    }

    /**
     * A zone's odds as counts over all WAYS to fill a car (each of its places with any of the zone's persons), so
     * that every mean is a sum over the ways, divided by their number. 200 persons and 5 places keep all sums, and
     * what is made of them, below 10 to the 18th.
     */
    private static final class Odds {
        boolean empty = true;
        long ways = 1;
        long stopsOfAll;
        long heightsOfAll;

        void count(Building building, int room, int from, int to) {
            int all = building.personsBetween(from, to);
            empty = all == 0;
            ways = empty ? 1 : power(all, room);
            stopsOfAll = 0;
            heightsOfAll = 0;
            int upToHere = 0;
            long waysUpToBelow = 0;
            for (int floor = from; floor <= to && !empty; floor++) {
                int here = building.personsOf[floor];
                stopsOfAll += ways - power(all - here, room);
                upToHere += here;
                long waysUpToHere = power(upToHere, room);
                heightsOfAll += building.heightOf[floor] * (waysUpToHere - waysUpToBelow);
                waysUpToBelow = waysUpToHere;
            }
        }

        long tripAbove(CarType car) {
            if (empty) {
                return 0;
            }
            long atDoors = car.doors * (stopsOfAll + ways);
            long gettingInAndOut = 2L * car.room * car.people * ways;
            return 2 * heightsOfAll + car.speed * (atDoors + gettingInAndOut);
        }

        long tripBelow(CarType car) {
            return car.speed * ways;
        }

        long carriedBy(int cars, CarType car) {
            long above = tripAbove(car);
            return above == 0 ? 0 : (long) FIVE_MINUTES * cars * car.room * tripBelow(car) / above;
        }

        private static long power(long base, int exponent) {
            long product = 1;
            for (int i = 0; i < exponent; i++) {
                product *= base;
            }
            return product;
        }
    }

    /** Tries all splits of the floors; zones are named by their places in the rows of their trips. */
    private static final class Splits {
        static final int ROW = MOST_FLOORS + 1;
        // No zone begins at the ground: its place holds the trip 0, no longer than any.
        static final int NO_ZONE = 0;

        final long[] tripsAbove = new long[ROW * ROW];
        final long[] tripsBelow = new long[ROW * ROW];
        final int[] ends = new int[MOST_ZONES];
        final int[] bestEnds = new int[MOST_ZONES];
        int bestLongest = NO_ZONE;
        int floors;
        int zones;

        Splits() {
            tripsBelow[NO_ZONE] = 1;
        }

        void measureZones(Building building, CarType car, Odds odds) {
            for (int from = 1; from <= building.floors; from++) {
                for (int to = from; to <= building.floors; to++) {
                    odds.count(building, car.room, from, to);
                    tripsAbove[zone(from, to)] = odds.tripAbove(car);
                    tripsBelow[zone(from, to)] = odds.tripBelow(car);
                }
            }
        }

        void findBest(int floorCount, int zoneCount) {
            floors = floorCount;
            zones = zoneCount;
            bestLongest = NO_ZONE;
            tryZonesFrom(0, 1, NO_ZONE);
        }

        /** Low ends come first and only a shorter longest trip replaces, so of equal splits the lowest stays. */
        private void tryZonesFrom(int index, int from, int longestBelow) {
            if (index >= zones - 1) {
                ends[index] = floors;
                keepIfBetter(longer(longestBelow, zone(from, floors)));
                return;
            }
            int zonesAbove = zones - 1 - index;
            for (int end = from; end <= floors - zonesAbove; end++) {
                ends[index] = end;
                tryZonesFrom(index + 1, end + 1, longer(longestBelow, zone(from, end)));
            }
        }

        private void keepIfBetter(int longest) {
            if (bestLongest == NO_ZONE || order(longest, bestLongest) < 0) {
                bestLongest = longest;
                System.arraycopy(ends, 0, bestEnds, 0, zones);
            }
        }

        private int longer(int zone, int other) {
            return order(zone, other) > 0 ? zone : other;
        }

        private int order(int zone, int other) {
            return orderOfFractions(tripsAbove[zone], tripsBelow[zone], tripsAbove[other], tripsBelow[other]);
        }

        private static int zone(int from, int to) {
            return from * ROW + to;
        }
    }

    /** Who is where on the stairs; row place 0 takes those who are out. */
    private static final class Stairs {
        final int[] at = new int[MOST_FLOORS + 1];
        int inside;

        void begin(Building building) {
            System.arraycopy(building.personsOf, 0, at, 0, MOST_FLOORS + 1);
            inside = building.everybody;
        }

        /** From the lowest floor on, so that who comes down into a floor finds it already served. */
        void oneSecond(int floors, int width) {
            int outBefore = at[0];
            for (int floor = 1; floor <= floors; floor++) {
                int going = Math.min(at[floor], width);
                at[floor] -= going;
                at[floor - 1] += going;
            }
            inside -= at[0] - outBefore;
        }
    }
}
