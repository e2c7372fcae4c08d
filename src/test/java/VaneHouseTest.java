import java.util.function.LongSupplier;

/** A test for each promise of the document, with answers worked out by hand. */
public final class VaneHouseTest {
    private static final Class<?> INDEX = IndexOutOfBoundsException.class;
    private static final Class<?> ARGUMENT = IllegalArgumentException.class;
    private static final Class<?> STATE = IllegalStateException.class;
    private static final int LEAST = Integer.MIN_VALUE;
    private static final int MOST = Integer.MAX_VALUE;
    private static final int NORTH = 0;

    private static int right;
    private static int wrong;

    public static void main(String[] args) {
        newObject();
        beginWind();
        addWind();
        wind();
        setUp();
        oil();
        turn();
        vaneFacts();
        lee();
        difference();
        move();
        put();
        motionFacts();
        stand();
        turningInAnHour();
        rustAndRain();
        agendaInAnHour();
        effects();
        pass();
        count();
        party();
        coalition();
        foresee();
        passes();
        advise();
        discord();
        digest();
        exampleOfReadme();
        System.out.println("VaneHouseTest: " + right + " answers right, " + wrong + " wrong");
        if (wrong != 0) {
            System.exit(1);
        }
    }

    private static void due(String what, double got, double want) {
        if (got == want) {
            right++;
            return;
        }
        wrong++;
        System.out.println(what + ": answered " + got + ", due is " + want);
    }

    private static void same(String what, long got, long want) {
        if (got == want) {
            right++;
            return;
        }
        wrong++;
        System.out.println(what + ": answered " + got + ", due is " + want);
    }

    /** The call throws just this, and nothing is changed by it. */
    private static void refused(String what, VaneHouse x, Class<?> kind, LongSupplier call) {
        long before = x.digest();
        Class<?> thrown = null;
        try {
            call.getAsLong();
        } catch (RuntimeException e) {
            thrown = e.getClass();
        }
        same(what + " throws " + kind.getSimpleName() + " (not " + thrown + ")", thrown == kind ? 1 : 0, 1);
        same(what + " changes nothing", x.digest(), before);
    }

    private static void direct(String what, VaneHouse x, int vane, int direction, int spin) {
        due(what + ", direction", x.vane(vane, 6), direction);
        due(what + ", spin", x.vane(vane, 7), spin);
    }

    private static VaneHouse windOf(int direction, int strength, boolean rains) {
        VaneHouse x = new VaneHouse();
        x.beginWind(direction, strength, rains);
        return x;
    }

    /** No wind, and in column k a vane with votes[k] that points to directions[k]. */
    private static VaneHouse calm(int[] votes, int[] directions) {
        VaneHouse x = windOf(NORTH, 0, false);
        for (int i = 0; i < votes.length; i++) {
            x.setUp(i % 12, i / 12, 1, 1, votes[i], directions[i]);
        }
        return x;
    }

    private static int[] row(int... numbers) {
        return numbers;
    }

    // Promise 1
    private static void newObject() {
        VaneHouse x = new VaneHouse();
        int[] counts = {0, 0, 0, 1, 0, 0, 0, 0, 0};
        for (int what = 0; what < counts.length; what++) {
            due("new: count " + what, x.count(what), counts[what]);
        }
        due("new: wind 0", x.wind(0, 0), 0);
        due("new: wind 1", x.wind(0, 1), 5);
        due("new: wind 2", x.wind(0, 2), 0);
        due("new: no wind is kept from one object to another", windOf(3, 3, true).count(3), 1);
    }

    // Promise 2
    private static void beginWind() {
        VaneHouse x = new VaneHouse();
        due("beginWind: the first one goes", x.beginWind(15, 9, true), 1);
        due("beginWind: direction", x.wind(0, 0), 15);
        due("beginWind: strength", x.wind(0, 1), 9);
        due("beginWind: rain", x.wind(0, 2), 1);
        x.addWind(1, 1, false);
        x.addWind(2, 2, false);
        due("beginWind: three go", x.beginWind(0, 0, false), 3);
        due("beginWind: one is left", x.count(3), 1);
        due("beginWind: and it is the new one", x.wind(1, 0), 0);
        refused("beginWind(-1, 0)", x, ARGUMENT, () -> x.beginWind(-1, 0, false));
        refused("beginWind(16, 0)", x, ARGUMENT, () -> x.beginWind(16, 0, false));
        refused("beginWind(0, -1)", x, ARGUMENT, () -> x.beginWind(0, -1, false));
        refused("beginWind(0, 10)", x, ARGUMENT, () -> x.beginWind(0, 10, false));
        refused("beginWind(MOST, LEAST)", x, ARGUMENT, () -> x.beginWind(MOST, LEAST, true));
    }

    // Promise 3
    private static void addWind() {
        VaneHouse x = new VaneHouse();
        for (int i = 2; i <= 24; i++) {
            due("addWind: entry " + i, x.addWind(i % 16, i % 10, i % 2 == 0), i);
        }
        due("addWind: the last one", x.wind(23, 0), 8);
        refused("addWind: a 25th", x, STATE, () -> x.addWind(0, 0, false));
        refused("addWind: a wrong 25th", x, ARGUMENT, () -> x.addWind(16, 0, false));
        x.beginWind(0, 0, false);
        refused("addWind(-1, 0)", x, ARGUMENT, () -> x.addWind(-1, 0, false));
        refused("addWind(16, 0)", x, ARGUMENT, () -> x.addWind(16, 0, false));
        refused("addWind(0, -1)", x, ARGUMENT, () -> x.addWind(0, -1, false));
        refused("addWind(0, 10)", x, ARGUMENT, () -> x.addWind(0, 10, false));
        due("addWind: edges", x.addWind(15, 9, true), 2);
        due("addWind: edges", x.addWind(0, 0, true), 3);
    }

    // Promise 4
    private static void wind() {
        VaneHouse x = windOf(4, 7, true);
        x.addWind(8, 9, false);
        x.addWind(12, 3, true);
        due("wind: hour 1", x.wind(1, 0), 8);
        due("wind: hour 5", x.wind(5, 1), 3);
        due("wind: hour 6", x.wind(6, 2), 1);
        due("wind: hour 7", x.wind(7, 2), 0);
        due("wind: the greatest hour, 2147483647 = 3 * 715827882 + 1", x.wind(MOST, 0), 8);
        refused("wind(-1, 0)", x, ARGUMENT, () -> x.wind(-1, 0));
        refused("wind(LEAST, 3)", x, ARGUMENT, () -> x.wind(LEAST, 3));
        refused("wind(0, -1)", x, INDEX, () -> x.wind(0, -1));
        refused("wind(0, 3)", x, INDEX, () -> x.wind(0, 3));
    }

    // Promise 5
    private static void setUp() {
        VaneHouse x = new VaneHouse();
        due("setUp: least", x.setUp(0, 0, 1, 1, 0, 0), 0);
        due("setUp: most", x.setUp(11, 11, 9, 9, 9, 15), 1);
        int[][] wrongOnes = {{-1, 1, 1, 1, 0, 0}, {12, 1, 1, 1, 0, 0}, {1, -1, 1, 1, 0, 0}, {1, 12, 1, 1, 0, 0},
            {1, 1, 0, 1, 0, 0}, {1, 1, 10, 1, 0, 0}, {1, 1, 1, 0, 0, 0}, {1, 1, 1, 10, 0, 0},
            {1, 1, 1, 1, -1, 0}, {1, 1, 1, 1, 10, 0}, {1, 1, 1, 1, 0, -1}, {1, 1, 1, 1, 0, 16},
            {0, 0, 1, 1, 0, 16}};
        for (int[] w : wrongOnes) {
            refused("setUp: wrong", x, ARGUMENT, () -> x.setUp(w[0], w[1], w[2], w[3], w[4], w[5]));
        }
        refused("setUp: there is one", x, STATE, () -> x.setUp(0, 0, 1, 1, 0, 0));
        due("setUp: the same column", x.setUp(0, 1, 1, 1, 0, 0), 2);
        due("setUp: the same row", x.setUp(1, 0, 1, 1, 0, 0), 3);
        for (int i = 4; i < 16; i++) {
            due("setUp: number", x.setUp(i - 4, 5, 1, 1, 0, 0), i);
        }
        refused("setUp: a 17th", x, STATE, () -> x.setUp(5, 6, 1, 1, 0, 0));
        refused("setUp: a wrong 17th", x, ARGUMENT, () -> x.setUp(5, 6, 1, 1, 0, 16));
        due("setUp: 16 are there", x.count(1), 16);
    }

    // Promise 6
    private static void oil() {
        VaneHouse x = windOf(0, 5, true);
        x.setUp(0, 0, 1, 1, 0, 0);
        x.setUp(5, 0, 1, 1, 0, 0);
        x.pass(3);
        due("oil: rust before", x.oil(0), 2);
        due("oil: rust", x.vane(0, 5), 0);
        due("oil: not the other one", x.vane(1, 5), 2);
        due("oil: nothing to oil", x.oil(0), 0);
        x.pass(1);
        due("oil: its first rainy hour comes anew", x.vane(0, 5), 1);
        due("oil: the fourth of the other one", x.vane(1, 5), 2);
        due("oil: counted anew even without rust", oilAfterAnEvenHour(), 1);
        refused("oil(-1)", x, INDEX, () -> x.oil(-1));
        refused("oil(2)", x, INDEX, () -> x.oil(2));
    }

    private static int oilAfterAnEvenHour() {
        VaneHouse x = windOf(0, 5, true);
        x.setUp(0, 0, 1, 1, 0, 0);
        x.pass(1);
        x.oil(0);
        x.pass(1);
        return x.vane(0, 5);
    }

    // Promise 7
    private static void turn() {
        VaneHouse x = windOf(8, 9, false);
        x.setUp(0, 0, 1, 1, 0, 0);
        x.pass(1);
        direct("turn: before", x, 0, 8, 8);
        due("turn: answers the direction before", x.turn(0, 15), 8);
        direct("turn: after", x, 0, 15, 0);
        refused("turn(0, -1)", x, ARGUMENT, () -> x.turn(0, -1));
        refused("turn(0, 16)", x, ARGUMENT, () -> x.turn(0, 16));
        refused("turn(-1, 16)", x, INDEX, () -> x.turn(-1, 16));
        refused("turn(1, 0)", x, INDEX, () -> x.turn(1, 0));
        VaneHouse y = oneBound();
        refused("turn: bound", y, STATE, () -> y.turn(0, 4));
        refused("turn: bound, wrong direction", y, ARGUMENT, () -> y.turn(0, 16));
        y.pass(3);
        refused("turn: still bound", y, STATE, () -> y.turn(0, 4));
        y.pass(1);
        due("turn: free again", y.turn(0, 4), 8);
    }

    /** Vane 0, to the south, is bound for 4 hours; vane 1 points to the north. */
    private static VaneHouse oneBound() {
        VaneHouse x = calm(row(1, 2), row(8, 0));
        x.move(0, 0, 0, 2);
        x.put(0, 0);
        x.pass(1);
        return x;
    }

    // Promise 8
    private static void vaneFacts() {
        VaneHouse x = windOf(4, 7, true);
        x.setUp(3, 2, 5, 4, 6, 0);
        x.pass(1);
        int[] facts = {3, 2, 5, 4, 6, 1, 3, 3, 0, 1, 7, 0};
        for (int what = 0; what < facts.length; what++) {
            due("vane: " + what, x.vane(0, what), facts[what]);
        }
        due("vane: bound", oneBound().vane(0, 8), 4);
        for (int direction = 0; direction < 16; direction++) {
            x.turn(0, direction);
            due("vane: party of " + direction, x.vane(0, 9), direction < 2 || direction > 13 ? 0 : (direction + 2) / 4);
        }
        x.addWind(4, 2, false);
        due("vane: the wind in the hour that is now", x.vane(0, 10), 2);
        refused("vane(-1, 0)", x, INDEX, () -> x.vane(-1, 0));
        refused("vane(1, 0)", x, INDEX, () -> x.vane(1, 0));
        refused("vane(0, -1)", x, INDEX, () -> x.vane(0, -1));
        refused("vane(0, 12)", x, INDEX, () -> x.vane(0, 12));
    }

    // Terms: Lee (promise 8, facts 10 and 11)
    private static void lee() {
        int[][] eighths = {{0, -1}, {1, -1}, {1, 0}, {1, 1}, {0, 1}, {-1, 1}, {-1, 0}, {-1, -1}};
        for (int e = 0; e < 8; e++) {
            for (int places = 1; places <= 4; places++) {
                for (int height = 5; height <= 6; height++) {
                    oneHigher(e, places, height, 5 + eighths[e][0] * places, 5 + eighths[e][1] * places);
                }
            }
        }
        VaneHouse x = windOf(8, 5, false);
        x.setUp(5, 5, 5, 1, 0, 0);
        x.setUp(6, 3, 9, 1, 0, 0);
        due("lee: not in a straight line", x.vane(0, 11), 0);
        x.setUp(5, 4, 9, 1, 0, 0);
        x.setUp(5, 2, 6, 1, 0, 0);
        due("lee: of two", x.vane(0, 11), 2);
        due("lee: wind behind two", x.vane(0, 10), 1);
        x.setUp(5, 3, 7, 1, 0, 0);
        due("lee: of three", x.vane(0, 11), 3);
        due("lee: wind behind three", x.vane(0, 10), 0);
        due("lee: of those that were set up later", x.vane(2, 11), 0);
        due("lee: of those that were set up earlier", x.vane(4, 11), 0);
        x.setUp(5, 6, 1, 1, 0, 0);
        due("lee: of all higher ones, one behind the other", x.vane(5, 11), 3);
    }

    private static void oneHigher(int eighth, int places, int height, int column, int row) {
        VaneHouse x = new VaneHouse();
        x.setUp(5, 5, 5, 1, 0, 0);
        x.setUp(column, row, height, 1, 0, 0);
        for (int from = 0; from < 16; from++) {
            boolean blowsPast = from == (eighth * 2 + 15) % 16 || from == eighth * 2;
            int want = places <= 3 && height > 5 && blowsPast ? 1 : 0;
            x.beginWind((from + 8) % 16, 6, false);
            String what = "lee: eighth " + eighth + ", places " + places + ", height " + height + ", from " + from;
            due(what, x.vane(0, 11), want);
            due(what + ", wind", x.vane(0, 10), 6 - 2 * want);
            due(what + ", the other", x.vane(1, 11), 0);
        }
    }

    // Promise 9
    private static void difference() {
        VaneHouse x = new VaneHouse();
        for (int a = 0; a < 16; a++) {
            for (int d = -7; d <= 8; d++) {
                due("difference from " + a, x.difference(a, (a + d + 16) % 16), d);
            }
        }
        refused("difference(-1, 0)", x, ARGUMENT, () -> x.difference(-1, 0));
        refused("difference(16, 0)", x, ARGUMENT, () -> x.difference(16, 0));
        refused("difference(0, -1)", x, ARGUMENT, () -> x.difference(0, -1));
        refused("difference(0, 16)", x, ARGUMENT, () -> x.difference(0, 16));
    }

    // Promise 10
    private static void move() {
        VaneHouse x = new VaneHouse();
        due("move: least", x.move(0, 0, 0, 0), 0);
        due("move: most", x.move(15, 7, 99, 3), 1);
        int[][] wrongOnes = {{-1, 0, 0, 0}, {16, 0, 0, 0}, {0, -1, 0, 0}, {0, 8, 0, 0},
            {0, 0, -1, 0}, {0, 0, 100, 0}, {0, 0, 0, -1}, {0, 0, 0, 4}};
        for (int[] w : wrongOnes) {
            refused("move: wrong", x, ARGUMENT, () -> x.move(w[0], w[1], w[2], w[3]));
        }
        for (int i = 2; i < 12; i++) {
            due("move: number", x.move(i, 0, 0, 0), i);
        }
        refused("move: a 13th", x, STATE, () -> x.move(0, 0, 0, 0));
        refused("move: a wrong 13th", x, ARGUMENT, () -> x.move(0, 0, 0, 4));
        due("move: 12 are there", x.count(2), 12);
    }

    // Promise 11
    private static void put() {
        VaneHouse x = new VaneHouse();
        refused("put: no motion", x, INDEX, () -> x.put(0, 0));
        x.move(0, 0, 0, 0);
        x.pass(2);
        due("put: now", x.put(0, 2), 1);
        due("put: the last hour", x.put(0, 2000), 2);
        due("put: the same once more", x.put(0, 2), 3);
        refused("put: gone by", x, ARGUMENT, () -> x.put(0, 1));
        refused("put: too late", x, ARGUMENT, () -> x.put(0, 2001));
        refused("put(-1, -1)", x, INDEX, () -> x.put(-1, -1));
        refused("put(1, 2001)", x, INDEX, () -> x.put(1, 2001));
        for (int i = 4; i <= 20; i++) {
            due("put: entry", x.put(0, 3), i);
        }
        refused("put: a 21st", x, STATE, () -> x.put(0, 3));
        refused("put: a wrong 21st", x, ARGUMENT, () -> x.put(0, 1));
        x.pass(1);
        due("put: two have come", x.put(0, 3), 19);
        due("put: and there is room", x.put(0, 4), 20);
        x.pass(2);
        due("put: only that for 2000 is left", x.count(4), 1);
    }

    // Promise 12
    private static void motionFacts() {
        VaneHouse x = calm(row(5, 3, 2, 7), row(14, 2, 8, 4));
        x.move(0, 2, 11, 0);
        x.move(0, 2, 10, 0);
        x.move(12, 2, 0, 3);
        int[] facts = {0, 2, 11, 0, 8, 2, 0, 0, 0};
        for (int what = 0; what < facts.length; what++) {
            due("motion: " + what, x.motion(0, what), facts[what]);
        }
        due("motion: the quorum is just met", x.motion(1, 6), 1);
        due("motion: fewer for than against, 5 and 7", x.motion(2, 6), 0);
        x.put(1, 0);
        x.put(0, 0);
        x.put(1, 3);
        x.pass(1);
        due("motion: voted on", x.motion(0, 7), 1);
        due("motion: did not pass", x.motion(0, 8), 0);
        due("motion: once", x.motion(1, 8), 1);
        x.pass(3);
        due("motion: voted on twice", x.motion(1, 7), 2);
        due("motion: passed twice", x.motion(1, 8), 2);
        due("motion: not put", x.motion(2, 7), 0);
        VaneHouse tie = calm(row(2, 2), row(0, 8));
        tie.move(0, 0, 0, 0);
        due("motion: as many for as against", tie.motion(0, 6), 0);
        VaneHouse nobody = new VaneHouse();
        nobody.move(0, 7, 0, 0);
        due("motion: nobody votes", nobody.motion(0, 6), 0);
        refused("motion(-1, 0)", x, INDEX, () -> x.motion(-1, 0));
        refused("motion(3, 0)", x, INDEX, () -> x.motion(3, 0));
        refused("motion(0, -1)", x, INDEX, () -> x.motion(0, -1));
        refused("motion(0, 9)", x, INDEX, () -> x.motion(0, 9));
    }

    // Promise 13
    private static void stand() {
        int[] against = {8, 8, 7, 7, 6, 6, 5, 8};
        for (int spread = 0; spread < 8; spread++) {
            VaneHouse x = calm(row(0), row(0));
            x.move(13, spread, 0, 0);
            for (int away = -7; away <= 8; away++) {
                x.turn(0, (13 + away + 16) % 16);
                int distance = away < 0 ? -away : away;
                int want = distance <= spread ? 1 : distance >= against[spread] ? -1 : 0;
                due("stand: spread " + spread + ", away " + away, x.stand(0, 0), want);
            }
        }
        VaneHouse x = calm(row(0), row(0));
        x.move(0, 0, 0, 0);
        refused("stand(-1, 0)", x, INDEX, () -> x.stand(-1, 0));
        refused("stand(1, 0)", x, INDEX, () -> x.stand(1, 0));
        refused("stand(0, -1)", x, INDEX, () -> x.stand(0, -1));
        refused("stand(0, 1)", x, INDEX, () -> x.stand(0, 1));
    }

    // Terms: step 1 of an hour (promise 14)
    private static void turningInAnHour() {
        VaneHouse x = windOf(8, 9, false);
        x.setUp(0, 0, 1, 1, 0, 0);
        x.setUp(5, 0, 1, 1, 0, 1);
        x.pass(1);
        direct("turning: 72 / 5 is more than 8", x, 0, 8, 8);
        direct("turning: 63 / 5 is more than 8", x, 1, 9, 8);
        x.pass(1);
        direct("turning: beyond, (8 + 0) / 5", x, 0, 9, 1);
        direct("turning: (8 - 9) / 5 is cut to 0, so -1", x, 1, 8, -1);
        x.pass(1);
        direct("turning: back, (1 - 9) / 5", x, 0, 8, -1);
        direct("turning: (-1 + 0) / 5 is cut to 0, and there it stays", x, 1, 8, 0);
        x.pass(1);
        direct("turning: still", x, 0, 8, 0);
        VaneHouse back = windOf(9, 9, false);
        back.setUp(0, 0, 1, 1, 0, 0);
        back.pass(1);
        direct("turning: -63 / 5 is less than -8", back, 0, 8, -8);
        VaneHouse heavy = windOf(1, 1, false);
        heavy.setUp(0, 0, 1, 9, 0, 0);
        heavy.setUp(5, 0, 1, 9, 0, 3);
        heavy.pass(1);
        direct("turning: 1 / 13, so 1", heavy, 0, 1, 1);
        direct("turning: -2 / 13, so -1", heavy, 1, 2, -1);
        heavy.pass(1);
        direct("turning: (9 + 0) / 13 is 0, and so is d", heavy, 0, 1, 0);
        direct("turning: (-9 - 1) / 13, so -1", heavy, 1, 1, -1);
        turningWithRustAndLee();
    }

    private static void turningWithRustAndLee() {
        VaneHouse x = windOf(4, 7, true);
        x.addWind(8, 9, false);
        x.setUp(5, 5, 3, 4, 0, 0);
        x.setUp(3, 5, 4, 4, 0, 0);
        x.pass(1);
        direct("turning: in the lee, 4 * 5 / 8", x, 0, 2, 2);
        direct("turning: in the wind, 4 * 7 / 8", x, 1, 3, 3);
        x.pass(1);
        direct("turning: with rust, (2 * 4 + 6 * 9) / 9", x, 0, 8, 6);
        direct("turning: with rust, (3 * 4 + 5 * 9) / 9", x, 1, 9, 6);
        VaneHouse stuck = windOf(8, 1, true);
        stuck.setUp(5, 5, 3, 4, 0, 0);
        stuck.pass(1);
        direct("turning: the wind is stronger than no rust", stuck, 0, 1, 1);
        stuck.pass(1);
        direct("turning: the wind is not stronger than its rust", stuck, 0, 1, 0);
        VaneHouse still = windOf(8, 0, false);
        still.setUp(5, 5, 3, 4, 0, 0);
        still.pass(1);
        direct("turning: no wind at all", still, 0, 0, 0);
        VaneHouse bound = oneBound();
        bound.beginWind(4, 9, false);
        bound.pass(4);
        due("turning: bound for 4 hours", bound.vane(0, 6), 8);
        due("turning: bound no more", bound.vane(0, 8), 0);
        bound.pass(1);
        direct("turning: free again, -4 * 9 / 5", bound, 0, 1, -7);
        VaneHouse spinning = windOf(8, 9, false);
        spinning.setUp(0, 0, 1, 1, 1, 0);
        spinning.setUp(5, 0, 1, 9, 2, 0);
        spinning.move(0, 5, 0, 2);
        spinning.put(0, 0);
        spinning.pass(1);
        direct("turning: bound behind step 1", spinning, 0, 8, 8);
        spinning.pass(1);
        direct("turning: a bound one loses its spin", spinning, 0, 8, 0);
    }

    // Terms: step 3 of an hour (promise 14)
    private static void rustAndRain() {
        VaneHouse x = windOf(0, 0, true);
        x.addWind(0, 0, false);
        x.setUp(0, 0, 1, 1, 0, 0);
        int[] rust = {1, 1, 1, 1, 2, 2, 2, 2, 3};
        for (int i = 0; i < rust.length; i++) {
            x.pass(1);
            due("rain: hour " + i, x.vane(0, 5), rust[i]);
        }
        x.setUp(1, 0, 1, 1, 0, 0);
        x.pass(1);
        due("rain: none", x.vane(1, 5), 0);
        x.pass(1);
        due("rain: since it was set up", x.vane(1, 5), 1);
        x.pass(60);
        due("rain: at most 9", x.vane(0, 5), 9);
        due("rain: the other too", x.vane(1, 5), 9);
        VaneHouse y = windOf(0, 9, true);
        y.setUp(0, 0, 1, 1, 1, 0);
        y.move(0, 0, 0, 1);
        y.put(0, 2);
        y.pass(2);
        due("rain: before the oil", y.vane(0, 5), 1);
        y.pass(1);
        due("rain: oiled, then its first rainy hour", y.vane(0, 5), 1);
        VaneHouse z = oneBound();
        z.beginWind(0, 0, true);
        z.pass(1);
        due("rain: a bound one rusts too", z.vane(0, 5), 1);
    }

    // Terms: step 2 of an hour (promise 14)
    private static void agendaInAnHour() {
        VaneHouse x = calm(row(2, 2), row(0, 8));
        x.move(0, 0, 5, 3);
        x.move(8, 0, 0, 3);
        x.move(0, 0, 0, 0);
        x.setUp(5, 5, 1, 1, 1, 8);
        x.put(2, 0);
        x.put(1, 0);
        x.put(0, 0);
        due("agenda: only the second one passes", x.pass(1), 1);
        due("agenda: votes for", x.vane(1, 4), 3);
        due("agenda: votes against", x.vane(0, 4), 1);
        VaneHouse y = windOf(8, 9, false);
        y.setUp(0, 0, 1, 1, 1, 0);
        y.move(8, 0, 0, 0);
        y.put(0, 0);
        due("agenda: voted behind step 1", y.pass(1), 1);
        VaneHouse z = calm(row(3, 4), row(0, 8));
        z.move(8, 0, 7, 3);
        z.move(0, 0, 7, 0);
        z.move(8, 0, 8, 0);
        z.put(2, 0);
        z.put(0, 0);
        z.put(2, 0);
        z.put(0, 0);
        z.put(1, 0);
        due("agenda: what passes has its effect at once", z.pass(1), 2);
        due("agenda: 5 and 2, then 6 and 1", z.vane(1, 4) * 10 + z.vane(0, 4), 61);
        VaneHouse w = calm(row(0, 4), row(0, 8));
        w.move(8, 0, 5, 0);
        w.move(8, 0, 4, 3);
        w.put(0, 0);
        w.put(1, 0);
        w.put(0, 0);
        due("agenda: the first would pass behind the second", w.pass(1), 2);
        due("agenda: once of two", w.motion(0, 8), 1);
    }

    // Terms: Effects (promise 14)
    private static void effects() {
        VaneHouse x = rustyOnes(1);
        due("effects: 1 passes", x.pass(1), 1);
        due("effects: 1 oils those for it", x.vane(0, 5), 0);
        due("effects: 1 oils not those against it", x.vane(1, 5), 2);
        due("effects: 1 oils not those that do not vote", x.vane(2, 5), 2);
        x.beginWind(0, 0, true);
        x.pass(1);
        due("effects: 1 counts the rainy hours anew", x.vane(0, 5), 1);
        VaneHouse y = rustyOnes(2);
        y.pass(1);
        due("effects: 2 binds those against it", y.vane(1, 8), 4);
        due("effects: 2 binds no others", y.vane(0, 8) + y.vane(2, 8), 0);
        y.pass(1);
        due("effects: 2, an hour less", y.vane(1, 8), 3);
        y.put(0, y.count(0));
        y.pass(1);
        due("effects: 2 again, from the next hour on", y.vane(1, 8), 4);
        VaneHouse z = calm(row(9, 0, 5), row(0, 8, 4));
        z.move(0, 0, 0, 3);
        z.put(0, 0);
        z.pass(1);
        due("effects: 3, at most 9", z.vane(0, 4), 9);
        due("effects: 3, at least 0", z.vane(1, 4), 0);
        due("effects: 3, not those that do not vote", z.vane(2, 4), 5);
        VaneHouse w = rustyOnes(0);
        due("effects: 0 passes", w.pass(1), 1);
        due("effects: 0 none", w.vane(0, 5) + w.vane(0, 4) + w.vane(1, 4) + w.vane(1, 8), 2 + 3 + 1);
        VaneHouse v = calm(row(1, 2), row(0, 8));
        for (int effect = 1; effect < 4; effect++) {
            v.move(0, 0, 0, effect);
            v.put(effect - 1, 0);
        }
        due("effects: what does not pass has none", v.pass(1), 0);
        due("effects: no votes, none bound", v.count(5) * 10 + v.count(7), 30);
    }

    /** For the motion, against it, and neither; each with rust 2; it is put for the hour that is now. */
    private static VaneHouse rustyOnes(int effect) {
        VaneHouse x = windOf(0, 0, true);
        x.setUp(0, 0, 1, 1, 3, 0);
        x.setUp(1, 0, 1, 1, 1, 8);
        x.setUp(2, 0, 1, 1, 5, 4);
        x.move(0, 1, 4, effect);
        x.pass(4);
        x.beginWind(0, 0, false);
        x.put(0, 4);
        return x;
    }

    // Promise 14
    private static void pass() {
        VaneHouse x = calm(row(1), row(0));
        x.move(0, 0, 0, 0);
        x.put(0, 0);
        x.put(0, 99);
        x.put(0, 99);
        x.put(0, 100);
        due("pass: those of 100 hours", x.pass(100), 3);
        due("pass: hour", x.count(0), 100);
        due("pass: that of the hour that is now comes still", x.count(4), 1);
        due("pass: one more", x.pass(1), 1);
        refused("pass(0)", x, ARGUMENT, () -> x.pass(0));
        refused("pass(-1)", x, ARGUMENT, () -> x.pass(-1));
        refused("pass(101)", x, ARGUMENT, () -> x.pass(101));
        refused("pass(MOST)", x, ARGUMENT, () -> x.pass(MOST));
        for (int i = 0; i < 18; i++) {
            x.pass(100);
        }
        x.put(0, 1999);
        x.put(0, 2000);
        refused("pass: beyond 2000", x, STATE, () -> x.pass(100));
        refused("pass: too many, and beyond 2000", x, ARGUMENT, () -> x.pass(101));
        due("pass: up to 2000", x.pass(99), 1);
        due("pass: hour 2000", x.count(0), 2000);
        due("pass: one for 2000 never comes", x.count(4), 1);
        refused("pass: the end", x, STATE, () -> x.pass(1));
        due("pass: put in the last hour", x.put(0, 2000), 2);
        due("pass: winds by hours", windsByHours(), 8);
    }

    private static int windsByHours() {
        VaneHouse x = windOf(8, 0, false);
        x.addWind(8, 9, false);
        x.setUp(0, 0, 1, 1, 1, 0);
        x.pass(1);
        due("pass: no wind in the first", x.vane(0, 6), 0);
        x.pass(1);
        return x.vane(0, 6);
    }

    // Promise 15
    private static void count() {
        VaneHouse x = windOf(0, 2, true);
        x.addWind(0, 1, false);
        x.addWind(0, 9, false);
        x.setUp(0, 0, 1, 1, 9, 0);
        x.setUp(1, 0, 1, 9, 2, 8);
        x.setUp(2, 0, 1, 1, 0, 0);
        x.move(0, 3, 0, 2);
        x.put(0, 0);
        x.put(0, 1);
        x.put(0, 7);
        x.pass(1);
        int[] counts = {1, 3, 1, 3, 2, 11, 1, 1, 2};
        for (int what = 0; what < counts.length; what++) {
            due("count: " + what, x.count(what), counts[what]);
        }
        x.pass(1);
        due("count: passed in all", x.count(6), 2);
        due("count: the wind is stronger now", x.count(8), 0);
        VaneHouse y = oneBound();
        due("count: bound for 4 hours", y.count(7), 1);
        y.pass(3);
        due("count: bound for one", y.count(7), 1);
        y.pass(1);
        due("count: bound no more", y.count(7), 0);
        refused("count(-1)", x, INDEX, () -> x.count(-1));
        refused("count(9)", x, INDEX, () -> x.count(9));
    }

    // Promise 16
    private static void party() {
        VaneHouse x = calm(row(1, 2, 3, 4, 5, 6, 7), row(14, 1, 2, 5, 6, 9, 13));
        int[] vanes = {2, 2, 2, 1};
        int[] votes = {3, 7, 11, 7};
        for (int p = 0; p < 4; p++) {
            due("party: vanes of " + p, x.party(p, 0), vanes[p]);
            due("party: votes of " + p, x.party(p, 1), votes[p]);
        }
        refused("party(-1, 0)", x, INDEX, () -> x.party(-1, 0));
        refused("party(4, 0)", x, INDEX, () -> x.party(4, 0));
        refused("party(0, -1)", x, INDEX, () -> x.party(0, -1));
        refused("party(0, 2)", x, INDEX, () -> x.party(0, 2));
        refused("party(32, 0)", x, INDEX, () -> x.party(32, 0));
    }

    // Promise 17
    private static void coalition() {
        int[][] cases = {{0, 0, 0, 0, 0}, {1, 0, 0, 0, 1}, {0, 0, 0, 9, 8}, {5, 1, 1, 2, 1}, {5, 5, 0, 0, 3},
            {4, 4, 4, 4, 7}, {3, 3, 2, 2, 3}, {2, 3, 2, 3, 10}, {3, 3, 3, 0, 3}, {1, 3, 3, 3, 6}, {0, 3, 3, 3, 6},
            {1, 1, 1, 2, 9}, {2, 2, 3, 3, 12}, {6, 3, 3, 1, 3}, {1, 2, 2, 5, 10}, {8, 2, 2, 3, 1}};
        for (int[] c : cases) {
            VaneHouse x = calm(row(c[0], c[1], c[2], c[3]), row(0, 4, 8, 12));
            due("coalition of " + c[0] + " " + c[1] + " " + c[2] + " " + c[3], x.coalition(), c[4]);
        }
        due("coalition: no vanes", new VaneHouse().coalition(), 0);
    }

    // Promise 18
    private static void foresee() {
        VaneHouse x = windOf(8, 9, false);
        x.setUp(0, 0, 1, 1, 1, 0);
        x.setUp(5, 0, 1, 1, 1, 1);
        x.move(8, 0, 0, 3);
        x.put(0, 0);
        long before = x.digest();
        int[] first = {0, 8, 9, 8, 8};
        int[] second = {1, 9, 8, 8, 8};
        for (int hours = 0; hours < first.length; hours++) {
            due("foresee: vane 0 in " + hours, x.foresee(0, hours), first[hours]);
            due("foresee: vane 1 in " + hours, x.foresee(1, hours), second[hours]);
        }
        same("foresee: nothing is changed", x.digest(), before);
        due("foresee: nothing was voted on", x.motion(0, 7), 0);
        VaneHouse y = calm(row(1, 2), row(8, 0));
        y.addWind(4, 9, false);
        y.move(0, 0, 0, 2);
        y.put(0, 0);
        due("foresee: free it would turn, -36 / 5", y.foresee(1, 2), 7);
        due("foresee: but it would be bound", y.foresee(0, 4), 8);
        VaneHouse z = windOf(0, 1, true);
        z.setUp(0, 0, 1, 1, 1, 2);
        due("foresee: it would rust", z.foresee(0, 100), 1);
        foreseeFromWhatIs();
        refused("foresee(-1, 101)", x, INDEX, () -> x.foresee(-1, 101));
        refused("foresee(2, 0)", x, INDEX, () -> x.foresee(2, 0));
        refused("foresee(0, -1)", x, ARGUMENT, () -> x.foresee(0, -1));
        refused("foresee(0, 101)", x, ARGUMENT, () -> x.foresee(0, 101));
        for (int i = 0; i < 20; i++) {
            z.pass(100);
        }
        due("foresee: at the end of time", z.foresee(0, 0), 1);
        refused("foresee: beyond 2000", z, STATE, () -> z.foresee(0, 1));
        refused("foresee: too many, beyond 2000", z, ARGUMENT, () -> z.foresee(0, 101));
        refused("foresee: no such vane, beyond 2000", z, INDEX, () -> z.foresee(1, 1));
    }

    private static void foreseeFromWhatIs() {
        VaneHouse x = oneBound();
        x.beginWind(4, 9, false);
        due("foresee: it is bound", x.foresee(0, 4), 8);
        due("foresee: then free again, -4 * 9 / 5", x.foresee(0, 5), 1);
        VaneHouse y = windOf(0, 0, true);
        y.setUp(0, 0, 1, 9, 1, 0);
        y.pass(1);
        y.beginWind(8, 2, true);
        due("foresee: the next rainy hour is its second, so it turns twice", y.foresee(0, 5), 2);
        VaneHouse z = calm(row(1, 2), row(8, 0));
        z.addWind(0, 0, false);
        z.addWind(4, 9, false);
        z.move(0, 0, 0, 2);
        z.put(0, 1);
        due("foresee: it would be bound in hour 1", z.foresee(0, 3), 8);
        VaneHouse w = windOf(8, 0, false);
        w.addWind(8, 0, true);
        w.addWind(8, 1, false);
        w.setUp(0, 0, 1, 1, 1, 0);
        due("foresee: it would rust in hour 1", w.foresee(0, 3), 0);
    }

    // Promise 19
    private static void passes() {
        VaneHouse x = windOf(1, 1, false);
        x.setUp(0, 0, 1, 9, 1, 5);
        x.move(1, 1, 0, 0);
        due("passes: 5 to 4, 3, 2 behind the third step 1", x.passes(0, 100), 2);
        due("passes: just so many", x.passes(0, 3), 2);
        due("passes: too few", x.passes(0, 2), -1);
        x.pass(1);
        due("passes: told in hours, not from now", x.passes(0, 100), 2);
        x.pass(2);
        due("passes: it passes now, but it is the hour that counts", x.passes(0, 1), 3);
        VaneHouse y = calm(row(2, 2), row(0, 8));
        y.move(0, 0, 0, 0);
        y.move(0, 0, 0, 3);
        due("passes: never", y.passes(0, 100), -1);
        y.put(1, 0);
        due("passes: what does not pass has no effect", y.passes(0, 100), -1);
        y.setUp(5, 5, 1, 1, 1, 0);
        y.move(0, 0, 7, 0);
        y.move(0, 0, 6, 0);
        due("passes: 5 votes, and 6 behind the agenda of hour 0", y.passes(3, 100), 1);
        due("passes: but never 7", y.passes(2, 100), -1);
        VaneHouse z = calm(row(3, 1, 0), row(0, 8, 0));
        z.move(0, 0, 5, 0);
        z.move(0, 0, 0, 3);
        z.put(1, 4);
        long before = z.digest();
        due("passes: 4 + 1 + 0 behind hour 4", z.passes(0, 100), 5);
        due("passes: not in the hour of the agenda itself", z.passes(0, 5), -1);
        due("passes: just then", z.passes(0, 6), 5);
        same("passes: nothing is changed", z.digest(), before);
        refused("passes(2, 0)", z, INDEX, () -> z.passes(2, 0));
        refused("passes(-1, 1)", z, INDEX, () -> z.passes(-1, 1));
        refused("passes(0, 0)", z, ARGUMENT, () -> z.passes(0, 0));
        refused("passes(0, 101)", z, ARGUMENT, () -> z.passes(0, 101));
        for (int i = 0; i < 20; i++) {
            x.pass(i == 0 ? 96 : 100);
        }
        due("passes: in the last hour", x.passes(0, 1), 1999);
        refused("passes: beyond 2000 by one", x, STATE, () -> x.passes(0, 2));
        x.pass(1);
        refused("passes: beyond 2000", x, STATE, () -> x.passes(0, 1));
        refused("passes: too many, beyond 2000", x, ARGUMENT, () -> x.passes(0, 101));
        refused("passes: no such motion, beyond 2000", x, INDEX, () -> x.passes(1, 1));
    }

    // Promise 20
    private static void advise() {
        VaneHouse x = stuckOnes();
        long before = x.digest();
        due("advise: vane 0 is not needed, 1 and 2 are, the smaller one", x.advise(0, 50), 1);
        due("advise: never in so few", x.advise(0, 1), -1);
        due("advise: in just so many", x.advise(0, 2), 1);
        same("advise: nothing is changed", x.digest(), before);
        due("advise: one would not do", x.advise(1, 50), -1);
        due("advise: it passes at once", x.advise(2, 50), -1);
        refused("advise(-1, 0)", x, INDEX, () -> x.advise(-1, 0));
        refused("advise(3, 1)", x, INDEX, () -> x.advise(3, 1));
        refused("advise(0, 0)", x, ARGUMENT, () -> x.advise(0, 0));
        refused("advise(0, 51)", x, ARGUMENT, () -> x.advise(0, 51));
        for (int i = 0; i < 20; i++) {
            x.pass(i == 0 ? 93 : 100);
        }
        due("advise: in the last hour", x.advise(0, 1), -1);
        refused("advise: beyond 2000 by one", x, STATE, () -> x.advise(0, 2));
        x.pass(1);
        refused("advise: beyond 2000", x, STATE, () -> x.advise(0, 1));
        refused("advise: too many, beyond 2000", x, ARGUMENT, () -> x.advise(0, 51));
        refused("advise: no such motion, beyond 2000", x, INDEX, () -> x.advise(3, 1));
        adviseEarlierThanWithout();
        due("advise: no vanes", noVanes().advise(0, 50), -1);
    }

    private static VaneHouse noVanes() {
        VaneHouse x = new VaneHouse();
        x.move(0, 7, 0, 0);
        return x;
    }

    /** Rust 3 for all, in a wind of 3 to the south; the last two point four steps from it, the first there. */
    private static VaneHouse stuckOnes() {
        VaneHouse x = windOf(8, 0, true);
        x.setUp(0, 0, 1, 9, 1, 8);
        x.setUp(4, 0, 1, 9, 2, 4);
        x.setUp(8, 0, 1, 9, 2, 12);
        x.pass(6);
        x.beginWind(8, 3, false);
        x.move(8, 2, 3, 0);
        x.move(8, 2, 5, 0);
        x.move(8, 2, 1, 0);
        return x;
    }

    private static void adviseEarlierThanWithout() {
        VaneHouse x = windOf(0, 0, true);
        x.setUp(0, 0, 1, 1, 2, 4);
        x.setUp(5, 0, 1, 9, 3, 0);
        x.pass(9);
        x.beginWind(8, 7, false);
        x.move(8, 0, 3, 0);
        due("advise: rust 5, so 1 goes to 3, 6, 8", x.passes(0, 50), 11);
        due("advise: with oil it goes to 4, 8; and 0 alone is too few", x.advise(0, 50), 1);
        due("advise: the earlier hour is still within reach", x.advise(0, 2), 1);
        due("advise: but not in one hour", x.advise(0, 1), -1);
        x.oil(1);
        due("advise: oiled it is as told", x.passes(0, 50), 10);
        due("advise: oil once more helps no more", x.advise(0, 50), -1);
        VaneHouse y = windOf(0, 0, true);
        y.setUp(0, 0, 1, 9, 2, 4);
        y.setUp(5, 0, 1, 9, 2, 7);
        y.setUp(8, 0, 1, 9, 2, 9);
        y.pass(5);
        y.beginWind(8, 3, false);
        y.move(8, 0, 2, 0);
        due("advise: 0 would come later than 1 and 2", y.advise(0, 50), 1);
        VaneHouse z = windOf(8, 1, true);
        z.setUp(0, 0, 1, 9, 2, 5);
        z.pass(1);
        z.move(8, 0, 1, 0);
        due("advise: oiled it turns to 7, then it rusts, for its rainy hours are counted anew", z.advise(0, 50), -1);
        z.beginWind(8, 1, false);
        due("advise: without rain it would come there", z.advise(0, 50), 0);
    }

    // Promise 21
    private static void discord() {
        due("discord: no vanes", new VaneHouse().discord(), 0);
        VaneHouse x = calm(row(0, 0, 0), row(0, 15, 8));
        due("discord: (0 + 1 + 8) / 3", x.discord(), 3);
        x.turn(2, 9);
        due("discord: (0 + 1 + 7) / 3", x.discord(), 8.0 / 3);
        x.addWind(8, 0, false);
        x.pass(1);
        due("discord: the wind in the hour that is now, (8 + 7 + 1) / 3", x.discord(), 16.0 / 3);
    }

    // Promise 22
    private static void digest() {
        long d = 503;
        for (int n : row(0, 0, 0, 1, 0, 0, 0, 0, 0, 0, 5, 0)) {
            d = d * 31 + n;
        }
        same("digest: new", new VaneHouse().digest(), d);
        VaneHouse x = windOf(4, 7, true);
        x.addWind(9, 1, false);
        x.setUp(3, 2, 5, 4, 6, 0);
        x.setUp(9, 2, 5, 4, 6, 0);
        x.move(15, 7, 2, 3);
        x.move(1, 0, 0, 0);
        x.put(1, 9);
        x.put(0, 0);
        x.put(0, 5);
        x.pass(1);
        d = 503;
        for (int n : row(1, 2, 2, 2, 2, 14, 1, 0, 2, 4, 7, 1, 9, 1, 0)) {
            d = d * 31 + n;
        }
        for (int n : row(3, 2, 5, 4, 7, 1, 3, 3, 0, 1, 1, 0, 9, 2, 5, 4, 7, 1, 3, 3, 0, 1, 1, 0)) {
            d = d * 31 + n;
        }
        for (int n : row(15, 7, 2, 3, 14, 0, 1, 1, 1, 1, 0, 0, 0, 0, 0, 0, 0, 0, 1, 9, 0, 5)) {
            d = d * 31 + n;
        }
        same("digest: all there is, in its order", x.digest(), d);
    }

    /** README.md tells these answers. */
    private static void exampleOfReadme() {
        VaneHouse house = new VaneHouse();
        due("README: beginWind", house.beginWind(4, 7, true), 1);
        due("README: addWind", house.addWind(8, 9, false), 2);
        due("README: setUp", house.setUp(5, 5, 3, 4, 2, 0), 0);
        due("README: setUp", house.setUp(3, 5, 9, 2, 3, 8), 1);
        due("README: the wind at it, 7 - 2", house.vane(0, 10), 5);
        due("README: move", house.move(4, 1, 1, 3), 0);
        due("README: passes, vane 1 turns by -28 / 6 to 4", house.passes(0, 10), 0);
        due("README: put", house.put(0, 0), 1);
        due("README: foresee, 0 by 20 / 8, by 62 / 9, by -1", house.foresee(0, 3), 7);
        due("README: pass", house.pass(3), 1);
        due("README: as foreseen", house.vane(0, 6), 7);
        due("README: one vote more", house.vane(1, 4), 4);
        due("README: coalition", house.coalition(), 4);
        due("README: discord, (1 + 2) / 2", house.discord(), 1.5);
    }
}
