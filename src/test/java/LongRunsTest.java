/** "An object is used for at most 512 calls": up to the last of them every call answers as it is due. */
public final class LongRunsTest {
    private static final int CALLS = 512;

    public static void main(String[] args) {
        everyCallInTurn();
        sameCallAgainAndAgain();
        refusedCallsUpToTheLast();
        fullFromTheFirstCallsOn();
        personsBackAndForth();
        Check.end();
    }

    /** Floors and types come bit by bit between all other calls, right and wrong ones, as in the model. */
    private static void everyCallInTurn() {
        Check.sentence("An object is used for at most 512 calls after it has been made");
        RoundTrips x = new RoundTrips();
        Model model = new Model();
        int next = 1;
        for (int call = 0; call < CALLS; call++) {
            // A floor and a type come in each turn of the kinds; the calls use more and more of them.
            Kind[] kinds = Kind.in(Math.min(12, 1 + call / 39), Math.min(6, 1 + call / 78));
            Kind kind = kinds[call % kinds.length];
            int[] a = new int[kind.least.length];
            for (int place = 0; place < a.length; place++) {
                next = (next * 171 + 11) % 30269;
                a[place] = kind.least[place] + next % (Math.min(kind.most[place], 200) - kind.least[place] + 1);
            }
            if (kind.name.equals("type")) {
                // The model takes long over large rooms in tall houses.
                a[0] = 1 + a[0] % 3;
            } else if (kind.name.equals("floor")) {
                a[0] %= 16;
            }
            Check.same("call " + (call + 1) + ", " + kind.with(a), Check.answerOf(() -> kind.real.ask(x, a)),
                    Check.answerOf(() -> kind.due.ask(model, a)));
        }
    }

    private static void sameCallAgainAndAgain() {
        Check.sentence("An object is used for at most 512 calls after it has been made");
        int made = 12 + 6;
        for (Kind kind : Kind.in(12, 6)) {
            RoundTrips x = House.full();
            RoundTrips fresh = House.full();
            int[] a = kind.most.clone();
            if (kind.name.equals("persons")) {
                a[1] = 35;
            }
            String due = Check.answerOf(() -> kind.real.ask(fresh, a));
            for (int call = made; call < CALLS; call++) {
                Check.same("call " + (call + 1) + ", " + kind.with(a), Check.answerOf(() -> kind.real.ask(x, a)), due);
            }
        }
    }

    private static void refusedCallsUpToTheLast() {
        Check.sentence("a call that throws changes nothing");
        int made = 3 + 2;
        for (Kind kind : Kind.in(3, 2)) {
            RoundTrips x = House.small();
            int[] a = kind.most.clone();
            a[0] = Integer.MIN_VALUE;
            for (int call = made; call < CALLS - 1; call++) {
                Check.illegalArgument("call " + (call + 1) + ", " + kind.with(a), () -> kind.real.ask(x, a));
            }
            Check.answers("the last call behind " + kind.with(a), () -> x.split(1, 3, 1), 2);
        }
        RoundTrips x = House.of(199);
        for (int call = 1; call < CALLS - 1; call++) {
            Check.illegalState("one too many", () -> x.floor(2, 10));
        }
        Check.answers("just as many", () -> x.floor(1, 10), 2);
    }

    private static void fullFromTheFirstCallsOn() {
        Check.sentence("illegal state: there are 12");
        RoundTrips floors = new RoundTrips();
        RoundTrips types = new RoundTrips();
        for (int call = 1; call <= CALLS; call++) {
            Check.same("floor in call " + call, Check.answerOf(() -> floors.floor(0, 10)),
                    call <= 12 ? Integer.toString(call) : Check.ILLEGAL_STATE);
            Check.same("type in call " + call, Check.answerOf(() -> types.type(1, 1, 0, 0, 1)),
                    call <= 6 ? Integer.toString(call - 1) : Check.ILLEGAL_STATE);
        }
    }

    private static void personsBackAndForth() {
        Check.sentence("A floor's persons: how many it had.");
        RoundTrips x = House.of(200, 0);
        int made = 2;
        int callsATurn = 5;
        for (int turn = 0; turn < (CALLS - made) / callsATurn; turn++) {
            Check.illegalState("not before others have gone", () -> x.persons(2, 200));
            Check.answers("200 go from floor 1", () -> x.persons(1, 0), 200);
            Check.answers("200 come to floor 2", () -> x.persons(2, 200), 0);
            Check.answers("they go again", () -> x.persons(2, 0), 200);
            Check.answers("and come to floor 1", () -> x.persons(1, 200), 0);
        }
    }
}
