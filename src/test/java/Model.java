import java.math.BigInteger;
import java.util.ArrayList;
import java.util.Arrays;
import java.util.List;

/**
 * The document's words done the long way, to compare with: every way to fill a car is gone through, fractions are of
 * big numbers, every person on the stairs is a number of their own. The calls are those of the face.
 */
final class Model {
    /** A fraction in lowest terms. */
    record Ratio(BigInteger above, BigInteger below) {
        static Ratio of(BigInteger above, BigInteger below) {
            BigInteger divisor = above.gcd(below);
            return new Ratio(above.divide(divisor), below.divide(divisor));
        }

        static Ratio of(long whole) {
            return new Ratio(BigInteger.valueOf(whole), BigInteger.ONE);
        }

        Ratio plus(Ratio other) {
            return of(above.multiply(other.below).add(other.above.multiply(below)), below.multiply(other.below));
        }

        Ratio times(Ratio other) {
            return of(above.multiply(other.above), below.multiply(other.below));
        }

        Ratio over(Ratio other) {
            return of(above.multiply(other.below), below.multiply(other.above));
        }

        int order(Ratio other) {
            return above.multiply(other.below).compareTo(other.above.multiply(below));
        }

        long part(int part) {
            return (part == 0 ? above : below).longValueExact();
        }
    }

    private final List<int[]> floors = new ArrayList<>();
    private final List<int[]> types = new ArrayList<>();

    int floor(int persons, int storey) {
        argument(persons >= 0 && persons <= 200 && storey >= 10 && storey <= 100);
        state(floors.size() < 12 && everybody() + persons <= 200);
        floors.add(new int[] {persons, storey});
        return floors.size();
    }

    int persons(int floor, int n) {
        argument(isFloor(floor) && n >= 0 && n <= 200);
        int had = floors.get(floor - 1)[0];
        state(everybody() - had + n <= 200);
        floors.get(floor - 1)[0] = n;
        return had;
    }

    int type(int room, int speed, int doors, int people, int cents) {
        argument(room >= 1 && room <= 5 && speed >= 1 && speed <= 100 && doors >= 0 && doors <= 30);
        argument(people >= 0 && people <= 10 && cents >= 1 && cents <= 100000);
        state(types.size() < 6);
        types.add(new int[] {room, speed, doors, people, cents});
        return types.size() - 1;
    }

    long stops(int type, int from, int to, int part) {
        argument(isType(type) && isZone(from, to) && (part == 0 || part == 1));
        return means(types.get(type)[0], from, to)[0].part(part);
    }

    long highest(int type, int from, int to, int part) {
        argument(isType(type) && isZone(from, to) && (part == 0 || part == 1));
        return means(types.get(type)[0], from, to)[1].part(part);
    }

    long trip(int type, int from, int to, int part) {
        argument(isType(type) && isZone(from, to) && (part == 0 || part == 1));
        return tripOf(type, from, to).part(part);
    }

    int compare(int type, int other, int from, int to) {
        argument(isType(type) && isType(other) && isZone(from, to));
        return tripOf(type, from, to).order(tripOf(other, from, to));
    }

    long carried(int cars, int type) {
        argument(cars >= 1 && cars <= 6 && isType(type));
        state(!floors.isEmpty());
        Ratio trip = tripOf(type, 1, floors.size());
        if (trip.above().signum() == 0) {
            return 0;
        }
        Ratio exact = Ratio.of(300L * cars * types.get(type)[0]).over(trip);
        return exact.above().divide(exact.below()).longValueExact();
    }

    int cheapest(int persons) {
        argument(persons >= 0);
        state(!floors.isEmpty());
        List<int[]> groups = new ArrayList<>();
        for (int type = 0; type < types.size(); type++) {
            for (int cars = 1; cars <= 6; cars++) {
                if (carried(cars, type) >= persons) {
                    groups.add(new int[] {cars * types.get(type)[4], cars, type});
                }
            }
        }
        groups.sort(Arrays::compare);
        return groups.isEmpty() ? RoundTrips.NONE : 10 * groups.get(0)[2] + groups.get(0)[1];
    }

    int split(int type, int k, int j) {
        argument(isType(type) && k >= 1 && k <= 4 && j >= 0 && j < k);
        state(floors.size() >= k);
        int n = floors.size();
        Ratio[][] trips = new Ratio[n + 1][n + 1];
        for (int from = 1; from <= n; from++) {
            for (int to = from; to <= n; to++) {
                trips[from][to] = tripOf(type, from, to);
            }
        }
        int[] best = null;
        Ratio bestWorst = null;
        // Every set of floors at which a zone ends is a mask; the highest floor always ends one.
        for (int mask = 0; mask < 1 << (n - 1); mask++) {
            if (Integer.bitCount(mask) != k - 1) {
                continue;
            }
            int[] ends = endsOf(mask, n, k);
            Ratio worst = Ratio.of(0);
            int from = 1;
            for (int end : ends) {
                worst = worst.order(trips[from][end]) < 0 ? trips[from][end] : worst;
                from = end + 1;
            }
            int order = best == null ? -1 : worst.order(bestWorst);
            if (order < 0 || order == 0 && Arrays.compare(ends, best) < 0) {
                best = ends;
                bestWorst = worst;
            }
        }
        return best[j];
    }

    int out(int width) {
        argument(width >= 1 && width <= 50);
        return walk(width).size() - 1;
    }

    int there(int width, int floor, int seconds) {
        argument(width >= 1 && width <= 50 && isFloor(floor) && seconds >= 0 && seconds <= 1000);
        List<int[]> walk = walk(width);
        return seconds < walk.size() ? walk.get(seconds)[floor] : 0;
    }

    int crowd(int width, int floor) {
        argument(width >= 1 && width <= 50 && isFloor(floor));
        int most = 0;
        for (int[] counts : walk(width)) {
            most = Math.max(most, counts[floor]);
        }
        return most;
    }

    private static void argument(boolean fine) {
        if (!fine) {
            throw new IllegalArgumentException();
        }
    }

    private static void state(boolean fine) {
        if (!fine) {
            throw new IllegalStateException();
        }
    }

    private boolean isFloor(int floor) {
        return floor >= 1 && floor <= floors.size();
    }

    private boolean isZone(int from, int to) {
        return isFloor(from) && isFloor(to) && from <= to;
    }

    private boolean isType(int type) {
        return type >= 0 && type < types.size();
    }

    private int everybody() {
        return floors.stream().mapToInt(floor -> floor[0]).sum();
    }

    private int heightOf(int floor) {
        return floors.subList(0, floor).stream().mapToInt(one -> one[1]).sum();
    }

    private Ratio tripOf(int type, int from, int to) {
        int[] car = types.get(type);
        Ratio[] means = means(car[0], from, to);
        if (means[0].above().signum() == 0) {
            return Ratio.of(0);
        }
        Ratio riding = Ratio.of(2).times(means[1]).over(Ratio.of(car[1]));
        Ratio doors = means[0].plus(Ratio.of(1)).times(Ratio.of(car[2]));
        return riding.plus(doors).plus(Ratio.of(2L * car[0] * car[3]));
    }

    /** STOPS and HIGHEST, by going through every row of floors at which a full car's persons can get off. */
    private Ratio[] means(int room, int from, int to) {
        int width = to - from + 1;
        int rows = 1;
        for (int i = 0; i < room; i++) {
            rows *= width;
        }
        int[] persons = new int[width];
        int[] height = new int[width];
        for (int i = 0; i < width; i++) {
            persons[i] = floors.get(from - 1 + i)[0];
            height[i] = heightOf(from + i);
        }
        long all = 0;
        long stops = 0;
        long heights = 0;
        for (int row = 0; row < rows; row++) {
            long weight = 1;
            int mask = 0;
            for (int i = 0, rest = row; i < room; i++, rest /= width) {
                weight *= persons[rest % width];
                mask |= 1 << (rest % width);
            }
            if (weight != 0) {
                all += weight;
                stops += weight * Integer.bitCount(mask);
                heights += weight * height[31 - Integer.numberOfLeadingZeros(mask)];
            }
        }
        if (all == 0) {
            return new Ratio[] {Ratio.of(0), Ratio.of(0)};
        }
        BigInteger ways = BigInteger.valueOf(all);
        return new Ratio[] {
            Ratio.of(BigInteger.valueOf(stops), ways), Ratio.of(BigInteger.valueOf(heights), ways)};
    }

    private static int[] endsOf(int mask, int n, int k) {
        int[] ends = new int[k];
        int zone = 0;
        for (int floor = 1; floor < n; floor++) {
            if ((mask >> (floor - 1) & 1) != 0) {
                ends[zone++] = floor;
            }
        }
        ends[zone] = n;
        return ends;
    }

    /** How many are at each floor at first and at the end of each second, until all are out. */
    private List<int[]> walk(int width) {
        int[] at = new int[everybody()];
        int person = 0;
        for (int floor = 1; floor <= floors.size(); floor++) {
            for (int i = 0; i < floors.get(floor - 1)[0]; i++) {
                at[person++] = floor;
            }
        }
        List<int[]> counts = new ArrayList<>();
        counts.add(countsOf(at));
        while (counts.get(counts.size() - 1)[0] < at.length) {
            int[] gone = new int[floors.size() + 1];
            int[] before = at.clone();
            for (person = 0; person < at.length; person++) {
                int floor = before[person];
                if (floor > 0 && gone[floor] < width) {
                    gone[floor]++;
                    at[person] = floor - 1;
                }
            }
            counts.add(countsOf(at));
        }
        return counts;
    }

    private int[] countsOf(int[] at) {
        int[] counts = new int[floors.size() + 1];
        for (int floor : at) {
            counts[floor]++;
        }
        return counts;
    }
}
