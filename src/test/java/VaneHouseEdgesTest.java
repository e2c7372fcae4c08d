import java.math.BigInteger;
import java.util.ArrayList;
import java.util.List;
import java.util.function.LongSupplier;
import java.util.function.Supplier;
import java.util.function.ToLongFunction;

/** Each sentence of the document that names a boundary case has a test of its own here, in the document's order. */
public final class VaneHouseEdgesTest {
    private static final Class<?> INDEX = IndexOutOfBoundsException.class;
    private static final Class<?> ARGUMENT = IllegalArgumentException.class;
    private static final Class<?> STATE = IllegalStateException.class;
    private static final int LEAST = Integer.MIN_VALUE;
    private static final int MOST = Integer.MAX_VALUE;
    private static final int NORTH = 0;
    private static final int SOUTH = 8;

    private static String sentence = "";
    private static int sentences;
    private static int right;
    private static int wrong;

    public static void main(String[] args) {
        termsOfDirections();
        termsOfWind();
        termsOfTheTown();
        termsOfLee();
        termsOfStepOne();
        termsOfStepsTwoAndThree();
        termsOfMotions();
        termsOfEffectsAndParties();
        promisesOfWind();
        promisesOfVanes();
        promisesOfMotions();
        promisesOfHours();
        promisesOfLookingAhead();
        whichExceptionComesFirst();
        calls512();
        System.out.println("VaneHouseEdgesTest: " + sentences + " sentences, " + right + " answers right, " + wrong + " wrong");
        if (wrong != 0) {
            System.exit(1);
        }
    }

    // ---- how it is told

    /** What follows is a test of this sentence. */
    private static void says(String text) {
        sentence = text;
        sentences++;
    }

    private static void due(String what, double got, double want) {
        if (got == want) {
            right++;
            return;
        }
        wrong++;
        System.out.println(sentence + " | " + what + ": answered " + got + ", due is " + want);
    }

    private static void same(String what, long got, long want) {
        if (got == want) {
            right++;
            return;
        }
        wrong++;
        System.out.println(sentence + " | " + what + ": answered " + got + ", due is " + want);
    }

    /** The class itself throws just this, and what refused it answers all later calls as if it had never been asked. */
    private static void refused(String what, Supplier<VaneHouse> made, Class<?> kind, ToLongFunction<VaneHouse> call) {
        VaneHouse asked = made.get();
        Class<?> thrown = null;
        String thrower = "";
        try {
            call.applyAsLong(asked);
        } catch (RuntimeException e) {
            thrown = e.getClass();
            thrower = e.getStackTrace()[0].getClassName();
        }
        same(what + " is thrown by VaneHouse, not by " + thrower, thrower.equals("VaneHouse") ? 1 : 0, 1);
        same(what + " throws " + kind.getSimpleName() + " (not " + thrown + ")", thrown == kind ? 1 : 0, 1);
        List<Long> later = laterAnswers(asked);
        List<Long> without = laterAnswers(made.get());
        same(what + ", later answers", later.size(), without.size());
        same(what + " changes no later answer", later.equals(without) ? 1 : 0, 1);
    }

    /** Each of these numbers is refused for a parameter. */
    private static void refusedNumbers(String what, Supplier<VaneHouse> made, Class<?> kind, NumberCall call, int... numbers) {
        for (int n : numbers) {
            refused(what + " " + n, made, kind, x -> call.ask(x, n));
        }
    }

    private interface NumberCall {
        long ask(VaneHouse x, int number);
    }

    /** What calls to come answer, chosen so that all of the state shows in them, rainy hours and agenda too. */
    private static List<Long> laterAnswers(VaneHouse x) {
        List<Long> answers = new ArrayList<>();
        tellAll(answers, x);
        answers.add(answer(() -> x.move(6, 3, 1, 1)));
        answers.add(answer(() -> x.put(0, x.count(0))));
        answers.add(answer(() -> x.setUp(11, 6, 9, 1, 9, 5)));
        answers.add(answer(() -> x.addWind(3, 9, true)));
        for (int i = 0; i < 3; i++) {
            answers.add(answer(() -> x.pass(1)));
            tellAll(answers, x);
        }
        answers.add(answer(() -> x.turn(0, 3)));
        answers.add(answer(() -> x.pass(20)));
        answers.add(answer(() -> x.oil(0)));
        answers.add(answer(() -> x.beginWind(9, 4, true)));
        answers.add(answer(() -> x.pass(5)));
        tellAll(answers, x);
        return answers;
    }

    private static void tellAll(List<Long> answers, VaneHouse x) {
        answers.add(x.digest());
        answers.add((long) x.coalition());
        answers.add(Double.doubleToLongBits(x.discord()));
        for (int vane = 0; vane < x.count(1); vane++) {
            int v = vane;
            answers.add(answer(() -> x.foresee(v, 20)));
        }
        for (int motion = 0; motion < x.count(2); motion++) {
            int m = motion;
            answers.add(answer(() -> x.passes(m, 20)));
            answers.add(answer(() -> x.advise(m, 20)));
        }
    }

    private static long answer(LongSupplier call) {
        try {
            return call.getAsLong();
        } catch (RuntimeException e) {
            return -1000000 - e.getClass().getName().hashCode();
        }
    }

    // ---- towns to begin with

    private static int[] row(int... numbers) {
        return numbers;
    }

    private static VaneHouse windOf(int direction, int strength, boolean rains) {
        VaneHouse x = new VaneHouse();
        x.beginWind(direction, strength, rains);
        return x;
    }

    /** No wind, and in column k a vane with votes[k] that points to directions[k]. */
    private static VaneHouse calm(int[] votes, int[] directions) {
        VaneHouse x = windOf(NORTH, 0, false);
        for (int i = 0; i < votes.length; i++) {
            x.setUp(i % 12, i / 12, 1, 1, votes[i], directions[i]);
        }
        return x;
    }

    /** One vane that has stood in this wind for an hour. */
    private static VaneHouse blown(int direction, int weight, int windDirection, int strength) {
        VaneHouse x = windOf(windDirection, strength, false);
        x.setUp(5, 5, 1, weight, 1, direction);
        x.pass(1);
        return x;
    }

    /** One vane of weight 1 to the north, without spin, and with this rust; then this wind, without rain. */
    private static VaneHouse rusted(int rust, int windDirection, int strength) {
        VaneHouse x = windOf(NORTH, 0, true);
        x.setUp(5, 5, 1, 1, 1, NORTH);
        if (rust > 0) {
            x.pass(2 * rust - 1);
        }
        x.beginWind(windDirection, strength, false);
        return x;
    }

    /** Two vanes that turn, rust and vote, and an agenda; the hour is 3. */
    private static VaneHouse lively() {
        VaneHouse x = windOf(8, 9, true);
        x.addWind(3, 6, false);
        x.setUp(5, 5, 3, 2, 4, 0);
        x.setUp(5, 3, 6, 5, 3, 6);
        x.move(8, 3, 2, 3);
        x.move(1, 1, 0, 2);
        x.put(1, 2);
        x.put(0, 9);
        x.put(1, 4);
        x.pass(3);
        return x;
    }

    private static VaneHouse livelyAt(int hour) {
        VaneHouse x = lively();
        while (x.count(0) < hour) {
            x.pass(Math.min(100, hour - x.count(0)));
        }
        return x;
    }

    /** As many winds, vanes, motions and entries to come as there can be. */
    private static VaneHouse full() {
        VaneHouse x = windOf(0, 9, false);
        for (int i = 1; i < 24; i++) {
            x.addWind(i % 16, i % 10, i % 5 == 0);
        }
        for (int i = 0; i < 16; i++) {
            x.setUp(i % 4 * 2, i / 4 * 2, 1 + i % 9, 1 + i % 7, i % 10, i);
        }
        for (int i = 0; i < 12; i++) {
            x.move(i, i % 8, i, i % 4);
        }
        for (int i = 0; i < 20; i++) {
            x.put(i % 12, 9 - i / 2);
        }
        return x;
    }

    /** Hour 1: vane 0, to the south, spins and is bound for 4 hours; vane 1 is not. */
    private static VaneHouse bound() {
        VaneHouse x = windOf(SOUTH, 9, false);
        x.setUp(0, 0, 1, 1, 1, 0);
        x.setUp(5, 0, 1, 9, 2, 0);
        x.move(0, 5, 0, 2);
        x.put(0, 0);
        x.pass(1);
        return x;
    }

    private static void turned(String what, VaneHouse x, int vane, int direction, int spin) {
        due(what + ", direction", x.vane(vane, 6), direction);
        due(what + ", spin", x.vane(vane, 7), spin);
    }

    // ---- Terms: directions

    private static void termsOfDirections() {
        says("All numbers are whole, and / is cut towards 0.");
        turned("-9 / 5 is -1", blown(1, 1, 0, 9), 0, 0, -1);
        turned("-14 / 5 is -2", blown(2, 1, 0, 7), 0, 0, -2);
        turned("14 / 5 is 2", blown(14, 1, 0, 7), 0, 0, 2);
        due("half of a spread of 1 is 0", standing(1, 7), 0);
        due("half of a spread of 3 is 1", standing(3, 7), -1);

        says("Time is told in hours, from 0.");
        due("the first hour", new VaneHouse().count(0), 0);
        due("its wind", windOf(7, 1, false).wind(0, 0), 7);

        says("Directions are 0 to 15, round the compass.");
        turned("from 15 by 2", blown(15, 1, 1, 5), 0, 1, 2);
        turned("from 1 by -2", blown(1, 1, 15, 5), 0, 15, -2);
        turned("from 15 by 8", blown(15, 1, 7, 9), 0, 7, 8);
        turned("from 8 by 8", blown(8, 1, 0, 9), 0, 0, 8);
        turned("from 7 by -8", blown(7, 1, 0, 9), 0, 15, -8);
        turned("from 0 by -8", blown(0, 1, 9, 9), 0, 8, -8);

        says("From one to another one the difference is -7 to 8.");
        VaneHouse x = new VaneHouse();
        for (int a = 0; a < 16; a++) {
            due("half round is 8, never -8, from " + a, x.difference(a, (a + 8) % 16), 8);
            due("the least is -7, from " + a, x.difference(a, (a + 9) % 16), -7);
            due("one less than half round, from " + a, x.difference(a, (a + 7) % 16), 7);
            due("none, from " + a, x.difference(a, a), 0);
        }
        due("beyond the north", x.difference(15, 0), 1);
        due("back beyond the north", x.difference(0, 15), -1);

        says("The distance of two directions is the difference without its sign.");
        int[] distances = {0, 1, 2, 3, 4, 5, 6, 7, 8, 7, 6, 5, 4, 3, 2, 1};
        for (int d = 0; d < 16; d++) {
            due("from " + d + " to 0", calm(row(1), row(d)).discord(), distances[d]);
        }
    }

    /** How a vane stands to a motion with this spread, if its distance from it is this. */
    private static int standing(int spread, int distance) {
        VaneHouse x = calm(row(1), row(distance));
        x.move(0, spread, 0, 0);
        return x.stand(0, 0);
    }

    // ---- Terms: wind

    private static void termsOfWind() {
        says("A table has 1 to 24 entries.");
        VaneHouse x = new VaneHouse();
        due("at first", x.count(3), 1);
        x.beginWind(1, 1, false);
        due("begun anew", x.count(3), 1);
        due("the most", full().count(3), 24);

        says("The hour h has the entry with the number h by the remainder of how many there are.");
        VaneHouse most = full();
        for (int hour : row(0, 23, 24, 47, 48, 1999, 2000)) {
            due("direction in hour " + hour, most.wind(hour, 0), hour % 24 % 16);
        }
        due("the greatest hour, 2147483647 = 24 * 89478485 + 7", most.wind(MOST, 0), 7);
        due("one entry, any hour", windOf(6, 1, false).wind(MOST, 0), 6);
        turningTable();

        says("(At first there is one: 0, 5, and no rain.)");
        VaneHouse fresh = new VaneHouse();
        due("direction", fresh.wind(0, 0), 0);
        due("strength", fresh.wind(0, 1), 5);
        due("rain", fresh.wind(0, 2), 0);
        fresh.addWind(4, 4, true);
        due("it is still the first, when another one is added", fresh.wind(2, 1), 5);
    }

    private static void turningTable() {
        VaneHouse x = new VaneHouse();
        x.setUp(0, 0, 1, 1, 1, 0);
        x.pass(5);
        x.beginWind(0, 0, false);
        x.addWind(8, 9, false);
        due("a table that is begun in hour 5 is in its entry 1", x.vane(0, 10), 9);
        x.pass(1);
        turned("and turns by it", x, 0, 8, 8);
        due("hour 6 has entry 0 again", x.vane(0, 10), 0);
        x.addWind(1, 1, false);
        x.addWind(2, 2, false);
        due("of four entries hour 6 has entry 2", x.vane(0, 10), 1);
        x.pass(2);
        due("and hour 8 has entry 0", x.vane(0, 10), 0);
    }

    // ---- Terms: town

    private static void termsOfTheTown() {
        says("It has 12 columns and 12 rows, 0 to 11.");
        VaneHouse x = new VaneHouse();
        int number = 0;
        for (int[] corner : new int[][] {{0, 0}, {11, 0}, {0, 11}, {11, 11}}) {
            due("a corner", x.setUp(corner[0], corner[1], 1, 1, 0, 0), number);
            due("its column", x.vane(number, 0), corner[0]);
            due("its row", x.vane(number, 1), corner[1]);
            number++;
        }
        due("the west edge is not beside the east edge", leeOf(0, 5, 11, 5, 4) + leeOf(0, 5, 9, 5, 4), 0);
        due("the east edge is not beside the west edge", leeOf(11, 5, 0, 5, 12) + leeOf(11, 5, 2, 5, 12), 0);
        due("the north edge is not beside the south edge", leeOf(5, 0, 5, 11, 8) + leeOf(5, 0, 5, 9, 8), 0);
        due("the south edge is not beside the north edge", leeOf(5, 11, 5, 0, 0) + leeOf(5, 11, 5, 2, 0), 0);
        due("a row does not go on in the next one", leeOf(0, 5, 11, 4, 4) + leeOf(11, 4, 0, 5, 12), 0);
        due("no corner is beside another one", leeOf(0, 0, 11, 11, 6) + leeOf(11, 11, 0, 0, 14), 0);

        says("Column 0 is in the west, row 0 in the north.");
        due("from the west, 0 beside 1", leeOf(1, 5, 0, 5, 4), 1);
        due("from the west, 2 beside 1", leeOf(1, 5, 2, 5, 4), 0);
        due("from the north, 0 beside 1", leeOf(5, 1, 5, 0, 8), 1);
        due("from the north, 2 beside 1", leeOf(5, 1, 5, 2, 8), 0);

        says("At a place there is at most one vane.");
        refused("the same place", VaneHouseEdgesTest::lively, STATE, h -> h.setUp(5, 5, 9, 9, 9, 9));
        due("the place with column and row the other way round is another one", lively().setUp(3, 5, 1, 1, 0, 0), 2);
        due("the same column", lively().setUp(5, 4, 1, 1, 0, 0), 2);
        due("the same row", lively().setUp(6, 5, 1, 1, 0, 0), 2);

        says("There are at most 16 vanes, numbered from 0 in the order in which they were set up.");
        VaneHouse most = new VaneHouse();
        for (int i = 0; i < 16; i++) {
            due("the number", most.setUp(11 - i % 12, 11 - i / 12, 1, 1, 0, i), i);
        }
        for (int i = 0; i < 16; i++) {
            due("who has it", most.vane(i, 6), i);
        }
        due("how many", most.count(1), 16);

        says("Rust is 0 at first, spin is 0 at first, and it is bound for 0 hours at first.");
        VaneHouse late = windOf(SOUTH, 9, true);
        late.setUp(0, 0, 1, 1, 1, 0);
        late.pass(1);
        late.setUp(5, 5, 1, 1, 1, 0);
        due("rust", late.vane(1, 5), 0);
        due("spin", late.vane(1, 7), 0);
        due("bound", late.vane(1, 8), 0);
        due("the first one rusts", late.vane(0, 5), 1);
    }

    /** In the lee of how many the first vane stands, with a much higher one at the other place. */
    private static int leeOf(int column, int row, int otherColumn, int otherRow, int windDirection) {
        VaneHouse x = windOf(windDirection, 5, false);
        x.setUp(column, row, 1, 1, 0, 0);
        x.setUp(otherColumn, otherRow, 9, 1, 0, 0);
        return x.vane(0, 11);
    }

    // ---- Terms: lee

    private static void termsOfLee() {
        int[][] eighths = {{0, -1}, {1, -1}, {1, 0}, {1, 1}, {0, 1}, {-1, 1}, {-1, 0}, {-1, -1}};

        says("Where it comes from is looked at by eighths: (that direction and 1) / 2, by the remainder of 8.");
        int[] eighthOf = {0, 1, 1, 2, 2, 3, 3, 4, 4, 5, 5, 6, 6, 7, 7, 0};
        for (int from = 0; from < 16; from++) {
            for (int e = 0; e < 8; e++) {
                int lee = leeOf(5, 5, 5 + eighths[e][0], 5 + eighths[e][1], (from + 8) % 16);
                due("from " + from + ", eighth " + e, lee, eighthOf[from] == e ? 1 : 0);
            }
        }

        says("A vane stands in the lee of each vane that is 1 to 3 places from it.");
        for (int e = 0; e < 8; e++) {
            for (int places = 1; places <= 5; places++) {
                int lee = leeOf(5, 5, 5 + places * eighths[e][0], 5 + places * eighths[e][1], (2 * e + 8) % 16);
                due("eighth " + e + ", places " + places, lee, places <= 3 ? 1 : 0);
            }
        }

        says("In a straight line (in columns, rows, or both, a place for a step).");
        for (int wind = 0; wind < 16; wind++) {
            int lees = 0;
            for (int across = -3; across <= 3; across++) {
                for (int along = -3; along <= 3; along++) {
                    boolean straight = across == 0 || along == 0 || across == along || across == -along;
                    lees += straight ? 0 : leeOf(5, 5, 5 + across, 5 + along, wind);
                }
            }
            due("off the line, wind " + wind, lees, 0);
        }

        says("The lee of each vane, be it set up earlier or later.");
        VaneHouse later = windOf(4, 5, false);
        later.setUp(4, 5, 9, 1, 0, 0);
        later.setUp(5, 5, 1, 1, 0, 0);
        later.setUp(3, 5, 9, 1, 0, 0);
        due("of the first and of the third", later.vane(1, 11), 2);

        says("And is higher.");
        for (int height = 1; height <= 9; height++) {
            VaneHouse x = windOf(4, 5, false);
            x.setUp(5, 5, 5, 1, 0, 0);
            x.setUp(4, 5, height, 1, 0, 0);
            due("height " + height, x.vane(0, 11), height >= 6 ? 1 : 0);
        }
        leeOfMany();
    }

    private static void leeOfMany() {
        says("The wind at a vane has the strength of the entry less 2 for each of these, but at least 0.");
        VaneHouse x = new VaneHouse();
        x.setUp(5, 5, 1, 1, 0, 0);
        for (int many = 0; many <= 3; many++) {
            if (many > 0) {
                x.setUp(5 - many, 5, 9, 1, 0, 0);
            }
            for (int strength = 0; strength <= 9; strength++) {
                x.beginWind(4, strength, false);
                String what = "strength " + strength + " behind " + many;
                due(what, x.vane(0, 10), strength > 2 * many ? strength - 2 * many : 0);
                due(what + ", how many", x.vane(0, 11), many);
            }
        }
        x.setUp(1, 5, 9, 1, 0, 0);
        due("the fourth is too far", x.vane(0, 11), 3);
        due("the last one itself stands free", x.vane(4, 11), 0);
        due("those between are as high as each other", x.vane(1, 11) + x.vane(2, 11) + x.vane(3, 11), 0);
    }

    // ---- Terms: step 1

    private static void termsOfStepOne() {
        says("One that is bound has one hour less, and its spin is 0.");
        VaneHouse x = bound();
        turned("it spins when it is bound", x, 0, 8, 8);
        x.beginWind(4, 9, false);
        for (int left = 3; left >= 0; left--) {
            x.pass(1);
            due("hours left", x.vane(0, 8), left);
            turned("it stays, " + left, x, 0, 8, 0);
        }
        x.pass(1);
        due("never less than 0 hours", x.vane(0, 8), 0);
        turned("then it turns again, -36 / 5", x, 0, 1, -7);

        says("If the wind at it is not stronger than its rust, its spin is 0, and it stays.");
        turned("no wind and no rust", blown(0, 1, 8, 0), 0, 0, 0);
        turned("the least wind and no rust, 8 / 5", blown(0, 1, 8, 1), 0, 1, 1);
        int[] directions = {0, 0, 0, 0, 4, 5, 6, 7, 8, 8};
        for (int strength = 0; strength <= 9; strength++) {
            VaneHouse y = rusted(3, 8, strength);
            y.pass(1);
            turned("rust 3, strength " + strength, y, 0, directions[strength], directions[strength]);
        }
        VaneHouse most = rusted(9, 8, 9);
        most.pass(1);
        turned("the most rust in the strongest wind", most, 0, 0, 0);
        VaneHouse nearly = rusted(8, 8, 9);
        nearly.pass(1);
        turned("a little less rust, 72 / 13", nearly, 0, 5, 5);
        VaneHouse spinning = windOf(8, 1, true);
        spinning.setUp(0, 0, 1, 1, 1, 0);
        spinning.pass(2);
        turned("it had a spin of 1, and rust 1 is as strong as the wind", spinning, 0, 1, 0);
        VaneHouse sheltered = rusted(3, 4, 5);
        sheltered.setUp(4, 5, 9, 1, 1, 0);
        sheltered.pass(1);
        turned("strength 5, but 3 at it", sheltered, 0, 0, 0);
        sheltered.beginWind(4, 6, false);
        sheltered.pass(1);
        turned("strength 6, 4 at it, 4 * 4 / 8", sheltered, 0, 2, 2);
        spins();
    }

    private static void spins() {
        says("Its spin becomes (..) / (weight and 4 and rust) (but -8 to 8).");
        turned("35 / 5", blown(0, 1, 5, 7), 0, 7, 7);
        turned("40 / 5", blown(0, 1, 5, 8), 0, 8, 8);
        turned("45 / 5", blown(0, 1, 5, 9), 0, 8, 8);
        turned("-35 / 5", blown(0, 1, 11, 7), 0, 9, -7);
        turned("-40 / 5", blown(0, 1, 11, 8), 0, 8, -8);
        turned("-45 / 5", blown(0, 1, 11, 9), 0, 8, -8);
        turned("the heaviest, 72 / 13", blown(0, 9, 8, 9), 0, 5, 5);

        says("If this is 0 and d is not, 1 with the sign of d.");
        turned("1 / 13", blown(0, 9, 1, 1), 0, 1, 1);
        turned("-1 / 13", blown(0, 9, 15, 1), 0, 15, -1);
        turned("8 / 13, half round", blown(0, 9, 8, 1), 0, 1, 1);
        turned("-7 / 13", blown(0, 9, 9, 1), 0, 15, -1);
        turned("12 / 13", blown(0, 9, 4, 3), 0, 1, 1);
        turned("0 / 13, and d is 0", blown(0, 9, 0, 9), 0, 0, 0);
        VaneHouse back = blown(2, 9, 1, 1);
        turned("-1", back, 0, 1, -1);
        back.beginWind(2, 1, false);
        back.pass(1);
        turned("(-1 * 9 + 1) / 13 is 0: the sign is that of d, not that of the spin", back, 0, 2, 1);
        VaneHouse forth = blown(0, 9, 1, 1);
        forth.beginWind(0, 1, false);
        forth.pass(1);
        turned("(1 * 9 - 1) / 13 is 0", forth, 0, 0, -1);
        VaneHouse against = blown(5, 9, 0, 8);
        turned("-40 / 13", against, 0, 2, -3);
        against.beginWind(3, 1, false);
        against.pass(1);
        turned("(-3 * 9 + 1) / 13 is not 0 and stays", against, 0, 0, -2);

        says("Then it turns by its spin.");
        VaneHouse beyond = blown(0, 1, 8, 9);
        turned("to where the wind blows", beyond, 0, 8, 8);
        beyond.pass(1);
        turned("and beyond, (8 + 0) / 5", beyond, 0, 9, 1);
        beyond.pass(1);
        turned("and back, (1 - 9) / 5", beyond, 0, 8, -1);
        beyond.pass(1);
        turned("(-1 + 0) / 5 is 0, and so is d", beyond, 0, 8, 0);
    }

    // ---- Terms: steps 2 and 3

    private static void termsOfStepsTwoAndThree() {
        says("All motions that are put for this hour are voted on.");
        VaneHouse x = calm(row(1), row(0));
        x.move(0, 0, 0, 0);
        due("none", x.pass(1), 0);
        x.put(0, 2);
        due("none in the hour before", x.pass(1), 0);
        due("in its hour", x.pass(1), 1);
        due("none in the hour behind", x.pass(1), 0);
        for (int i = 0; i < 20; i++) {
            x.put(0, 4);
        }
        due("twenty in one hour", x.pass(1), 20);
        due("each was voted on", x.motion(0, 7), 21);
        VaneHouse turning = windOf(8, 9, false);
        turning.setUp(0, 0, 1, 1, 1, 0);
        turning.move(8, 0, 0, 0);
        turning.put(0, 0);
        due("behind step 1", turning.pass(1), 1);

        says("In the order in which they were put, one after the other, and the effect is at once, also for the next one.");
        due("the higher one first", inOrder(1, 0), 2);
        due("the lower one first", inOrder(0, 1), 1);
        due("the lower one first and last", inOrder(0, 1, 0), 2);
        due("the lower one first and twice last", inOrder(0, 1, 0, 0), 3);

        says("If it rains, the rust of each vane with an odd number of rainy hours so far is 1 more, at most 9.");
        VaneHouse wet = windOf(0, 0, true);
        wet.setUp(0, 0, 1, 1, 1, 0);
        for (int hour = 1; hour <= 40; hour++) {
            wet.pass(1);
            due("behind rainy hour " + hour, wet.vane(0, 5), Math.min(9, (hour + 1) / 2));
        }
        VaneHouse dry = windOf(0, 0, false);
        dry.addWind(0, 0, true);
        dry.setUp(0, 0, 1, 1, 1, 0);
        for (int hour = 1; hour <= 9; hour++) {
            dry.pass(1);
            due("every other hour, behind hour " + hour, dry.vane(0, 5), (hour / 2 + 1) / 2);
        }
        VaneHouse held = bound();
        held.beginWind(0, 9, true);
        held.pass(1);
        due("a bound one too", held.vane(0, 5), 1);
        rainyHours();

        says("Behind the hour its number is 1 greater.");
        VaneHouse clock = new VaneHouse();
        for (int hour = 1; hour <= 3; hour++) {
            clock.pass(1);
            due("the hour", clock.count(0), hour);
        }
    }

    /** How many pass; motion 1 moves a vote to a vane that had none, and motion 0 needs it. */
    private static int inOrder(int... order) {
        VaneHouse x = calm(row(0, 4), row(0, 8));
        x.move(8, 0, 5, 0);
        x.move(8, 0, 4, 3);
        for (int motion : order) {
            x.put(motion, 0);
        }
        return x.pass(1);
    }

    private static void rainyHours() {
        says("(Rainy hours are counted for each vane since it was set up or oiled last.)");
        VaneHouse x = windOf(0, 0, true);
        x.setUp(0, 0, 1, 1, 1, 0);
        x.pass(1);
        x.setUp(5, 0, 1, 1, 1, 0);
        x.pass(1);
        due("the second one of vane 0", x.vane(0, 5), 1);
        due("the first one of vane 1", x.vane(1, 5), 1);
        x.oil(1);
        x.pass(1);
        due("the third one of vane 0", x.vane(0, 5), 2);
        due("the first one of vane 1, anew", x.vane(1, 5), 1);
        x.pass(1);
        due("the second one of vane 1", x.vane(1, 5), 1);
        x.oil(1);
        x.oil(1);
        x.pass(1);
        due("oiled twice it is the first one all the same", x.vane(1, 5), 1);
    }

    // ---- Terms: motions

    private static void termsOfMotions() {
        says("A vane is for it, if the distance of its direction from that of the motion is at most the spread.");
        for (int spread = 0; spread <= 7; spread++) {
            VaneHouse x = calm(row(1), row(0));
            x.move(15, spread, 0, 0);
            x.turn(0, (15 + spread) % 16);
            due("just within, clockwise, " + spread, x.stand(0, 0), 1);
            x.turn(0, 15 - spread);
            due("just within, the other way, " + spread, x.stand(0, 0), 1);
            x.turn(0, (16 + spread) % 16);
            due("just beyond, clockwise, " + spread, x.stand(0, 0) == 1 ? 1 : 0, 0);
            x.turn(0, 14 - spread);
            due("just beyond, the other way, " + spread, x.stand(0, 0) == 1 ? 1 : 0, 0);
        }

        says("Against it, if the distance is at least 8 less (spread / 2), and it is not for it; otherwise it does not vote.");
        int[] leastAgainst = {8, 8, 7, 7, 6, 6, 7, 8};
        int[] oneNearer = {0, 0, 0, 0, 0, 1, 1, 1};
        for (int spread = 0; spread <= 7; spread++) {
            due("half round, " + spread, standing(spread, 8), -1);
            due("just far enough, " + spread, standing(spread, leastAgainst[spread]), -1);
            due("the same the other way, " + spread, standing(spread, 16 - leastAgainst[spread]), -1);
            due("one nearer, " + spread, standing(spread, leastAgainst[spread] - 1), oneNearer[spread]);
        }

        says("If the votes of those for it and against it together are at least the quorum.");
        for (int quorum = 7; quorum <= 9; quorum++) {
            VaneHouse x = calm(row(5, 3, 9), row(0, 8, 4));
            x.move(0, 0, quorum, 0);
            due("5 and 3, and 9 that do not vote, quorum " + quorum, x.motion(0, 6), quorum <= 8 ? 1 : 0);
            x.put(0, 0);
            due("voted on, quorum " + quorum, x.pass(1), quorum <= 8 ? 1 : 0);
        }
        VaneHouse great = calm(row(9, 9, 9, 9, 9, 9, 9, 9, 9, 9, 8), new int[11]);
        great.move(0, 0, 99, 0);
        due("98 of 99", great.motion(0, 6), 0);
        great.setUp(11, 11, 1, 1, 1, 0);
        due("99 of 99", great.motion(0, 6), 1);
        great.setUp(11, 9, 1, 1, 9, 0);
        due("108 of 99", great.motion(0, 6), 1);

        says("And those for it more than those against it.");
        for (int votes = 2; votes <= 4; votes++) {
            VaneHouse x = calm(row(votes, 3), row(0, 8));
            x.move(0, 0, 0, 0);
            due(votes + " for, 3 against", x.motion(0, 6), votes > 3 ? 1 : 0);
            x.put(0, 0);
            due(votes + " for, 3 against, voted on", x.pass(1), votes > 3 ? 1 : 0);
        }
        VaneHouse nobody = new VaneHouse();
        nobody.move(0, 7, 0, 0);
        due("no vanes at all, quorum 0", nobody.motion(0, 6), 0);
        nobody.setUp(0, 0, 1, 1, 0, 0);
        due("a vane without votes, quorum 0", nobody.motion(0, 6), 0);
        nobody.setUp(5, 0, 1, 1, 1, 0);
        due("one vote, quorum 0", nobody.motion(0, 6), 1);
    }

    // ---- Terms: effects and parties

    private static void termsOfEffectsAndParties() {
        says("Effect 0: none.");
        VaneHouse none = voted(0, row(3, 1, 5));
        due("it passes", none.count(6), 1);
        due("rust", none.vane(0, 5) + none.vane(1, 5) + none.vane(2, 5), 6);
        due("bound", none.count(7), 0);
        due("votes", none.count(5), 9);

        says("Effect 1: all vanes for it are oiled.");
        VaneHouse oiled = voted(1, row(3, 1, 5));
        due("one for it", oiled.vane(0, 5), 0);
        due("one against it", oiled.vane(1, 5), 2);
        due("one that does not vote", oiled.vane(2, 5), 2);
        oiled.beginWind(0, 0, true);
        oiled.pass(1);
        due("its rainy hours are counted anew: the first", oiled.vane(0, 5), 1);
        due("the fifth of the others", oiled.vane(1, 5), 3);
        oiled.pass(1);
        due("its second", oiled.vane(0, 5), 1);
        due("even one without votes is oiled", voted(1, row(0, 0, 5), row(2, 0)).vane(0, 5), 0);

        says("Effect 2: all vanes against it are bound for 4 hours (from the next hour on; a longer time stays).");
        VaneHouse held = voted(2, row(3, 1, 5));
        due("one for it", held.vane(0, 8), 0);
        due("one against it", held.vane(1, 8), 4);
        due("one that does not vote", held.vane(2, 8), 0);
        held.put(0, 5);
        held.put(0, 5);
        held.pass(1);
        due("3 hours were left: 4 again, and not 8, though it passes twice", held.vane(1, 8), 4);
        held.put(0, 9);
        held.pass(3);
        due("one hour is left", held.vane(1, 8), 1);
        held.pass(1);
        due("none was left in step 1, and 4 again in step 2", held.vane(1, 8), 4);

        says("Effect 3: all vanes for it have 1 vote more (at most 9), all against it 1 less (at least 0).");
        int[][] votes = {{8, 1, 5}, {9, 0, 5}, {9, 0, 5}};
        VaneHouse strong = calm(row(7, 2, 5), row(0, 8, 4));
        strong.move(0, 0, 0, 3);
        for (int hour = 0; hour < votes.length; hour++) {
            strong.put(0, hour);
            strong.pass(1);
            for (int vane = 0; vane < 3; vane++) {
                due("votes of vane " + vane + " behind hour " + hour, strong.vane(vane, 4), votes[hour][vane]);
            }
        }

        says("Effects, if it passes.");
        for (int effect = 1; effect <= 3; effect++) {
            VaneHouse failed = voted(effect, row(2, 2, 5));
            due("it does not pass, " + effect, failed.count(6), 0);
            due("rust, " + effect, failed.vane(0, 5) + failed.vane(1, 5) + failed.vane(2, 5), 6);
            due("bound, " + effect, failed.count(7), 0);
            due("votes, " + effect, failed.vane(0, 4) * 10 + failed.vane(1, 4), 22);
        }

        says("The party of a vane is ((its direction and 2) / 4) by the remainder of 4.");
        int[] parties = {0, 0, 1, 1, 1, 1, 2, 2, 2, 2, 3, 3, 3, 3, 0, 0};
        for (int direction = 0; direction < 16; direction++) {
            due("of direction " + direction, calm(row(1), row(direction)).vane(0, 9), parties[direction]);
        }
    }

    /** Three vanes with rust 2, to the north, the south and the east, behind a vote on a motion to the north in hour 4. */
    private static VaneHouse voted(int effect, int[] votes) {
        return voted(effect, votes, row());
    }

    /** The same with one more vane to the north for each of these votes. */
    private static VaneHouse voted(int effect, int[] votes, int[] more) {
        VaneHouse x = windOf(0, 0, true);
        x.setUp(0, 0, 1, 1, votes[0], 0);
        x.setUp(1, 0, 1, 1, votes[1], 8);
        x.setUp(2, 0, 1, 1, votes[2], 4);
        for (int i = 0; i < more.length; i++) {
            x.setUp(i, 11, 1, 1, more[i], 0);
        }
        x.pass(4);
        x.beginWind(0, 0, false);
        x.move(0, 0, 0, effect);
        x.put(0, 4);
        x.pass(1);
        return x;
    }

    // ---- Promises 1 to 4

    private static void promisesOfWind() {
        says("Promise 1: a town without vanes and motions, in the hour 0.");
        int[] counts = {0, 0, 0, 1, 0, 0, 0, 0, 0};
        for (int what = 0; what < counts.length; what++) {
            due("count " + what, new VaneHouse().count(what), counts[what]);
        }

        says("Promise 2: all entries that were there are gone; returns how many there were.");
        due("of one", new VaneHouse().beginWind(0, 0, false), 1);
        VaneHouse most = full();
        due("of 24", most.beginWind(15, 9, true), 24);
        due("one is left", most.count(3), 1);
        due("and it is the new one", most.wind(23, 0) * 100 + most.wind(23, 1) * 10 + most.wind(23, 2), 1591);

        says("Promise 2: direction is not 0 to 15, or strength is not 0 to 9.");
        due("the least", lively().beginWind(0, 0, false), 2);
        due("the greatest", lively().beginWind(15, 9, true), 2);
        refusedNumbers("direction", VaneHouseEdgesTest::lively, ARGUMENT, (x, n) -> x.beginWind(n, 0, true), -1, 16, LEAST, MOST);
        refusedNumbers("strength", VaneHouseEdgesTest::lively, ARGUMENT, (x, n) -> x.beginWind(0, n, true), -1, 10, LEAST, MOST);

        says("Promise 3: adds an entry behind the others; returns how many there are.");
        VaneHouse x = new VaneHouse();
        for (int i = 2; i <= 24; i++) {
            due("how many", x.addWind(i % 16, i % 10, i % 2 == 0), i);
            due("the last one", x.wind(i - 1, 0), i % 16);
        }
        due("the first one stays", x.wind(0, 1), 5);

        says("Promise 3: direction is not 0 to 15, or strength is not 0 to 9.");
        due("the least", lively().addWind(0, 0, false), 3);
        due("the greatest", lively().addWind(15, 9, true), 3);
        refusedNumbers("direction", VaneHouseEdgesTest::lively, ARGUMENT, (h, n) -> h.addWind(n, 0, true), -1, 16, LEAST, MOST);
        refusedNumbers("strength", VaneHouseEdgesTest::lively, ARGUMENT, (h, n) -> h.addWind(0, n, true), -1, 10, LEAST, MOST);

        says("Promise 3: IllegalStateException if there are 24.");
        refused("a 25th", VaneHouseEdgesTest::full, STATE, h -> h.addWind(0, 0, false));
        most = full();
        most.beginWind(0, 0, false);
        due("there is room when a new table is begun", most.addWind(0, 0, false), 2);

        says("Promise 4: hour is less than 0; what is not 0 to 2.");
        due("hour 0", lively().wind(0, 0), 8);
        due("the greatest hour", lively().wind(MOST, 1), 6);
        due("rain", lively().wind(0, 2), 1);
        due("no rain", lively().wind(1, 2), 0);
        refusedNumbers("hour", VaneHouseEdgesTest::lively, ARGUMENT, (h, n) -> h.wind(n, 0), -1, LEAST);
        refusedNumbers("what", VaneHouseEdgesTest::lively, INDEX, (h, n) -> h.wind(0, n), -1, 3, LEAST, MOST);
    }

    // ---- Promises 5 to 9

    private static void promisesOfVanes() {
        setUp();
        oilAndTurn();

        says("Promise 8: there is no such vane, or what is not 0 to 11.");
        int[] facts = {5, 3, 6, 5, 3};
        for (int what = 0; what < facts.length; what++) {
            due("fact " + what, lively().vane(1, what), facts[what]);
        }
        refusedNumbers("none yet", VaneHouse::new, INDEX, (x, n) -> x.vane(n, 0), 0, -1);
        refusedNumbers("vane", VaneHouseEdgesTest::lively, INDEX, (x, n) -> x.vane(n, 0), -1, 2, LEAST, MOST);
        refusedNumbers("of 16", VaneHouseEdgesTest::full, INDEX, (x, n) -> x.vane(n, 11), 16);
        refusedNumbers("what", VaneHouseEdgesTest::lively, INDEX, (x, n) -> x.vane(0, n), -1, 12, LEAST, MOST);
        due("the last fact of the last vane", full().vane(15, 11) >= 0 ? 1 : 0, 1);

        says("Promise 8: the wind at it and its lee in the hour that is now.");
        VaneHouse x = windOf(4, 9, false);
        x.addWind(12, 4, false);
        x.setUp(5, 5, 1, 1, 0, 4);
        x.setUp(4, 5, 9, 1, 0, 4);
        due("in hour 0, from the west", x.vane(0, 10) * 10 + x.vane(0, 11), 71);
        x.pass(1);
        due("in hour 1, from the east", x.vane(0, 10) * 10 + x.vane(0, 11), 40);

        says("Promise 9: a or b is not 0 to 15.");
        due("the least", lively().difference(0, 0), 0);
        due("the greatest", lively().difference(15, 15), 0);
        refusedNumbers("a", VaneHouseEdgesTest::lively, ARGUMENT, (h, n) -> h.difference(n, 0), -1, 16, LEAST, MOST);
        refusedNumbers("b", VaneHouseEdgesTest::lively, ARGUMENT, (h, n) -> h.difference(0, n), -1, 16, LEAST, MOST);
    }

    private static void setUp() {
        says("Promise 5: column or row is not 0 to 11, height or weight not 1 to 9, votes not 0 to 9, or direction not 0 to 15.");
        VaneHouse x = new VaneHouse();
        due("the least", x.setUp(0, 0, 1, 1, 0, 0), 0);
        due("the greatest", x.setUp(11, 11, 9, 9, 9, 15), 1);
        int[] facts = {11, 11, 9, 9, 9, 0, 15, 0, 0, 0};
        for (int what = 0; what < facts.length; what++) {
            due("fact " + what + " of the greatest", x.vane(1, what), facts[what]);
        }
        Supplier<VaneHouse> made = VaneHouseEdgesTest::lively;
        refusedNumbers("column", made, ARGUMENT, (h, n) -> h.setUp(n, 1, 2, 2, 2, 2), -1, 12, LEAST, MOST);
        refusedNumbers("row", made, ARGUMENT, (h, n) -> h.setUp(1, n, 2, 2, 2, 2), -1, 12, LEAST, MOST);
        refusedNumbers("height", made, ARGUMENT, (h, n) -> h.setUp(1, 1, n, 2, 2, 2), 0, 10, LEAST, MOST);
        refusedNumbers("weight", made, ARGUMENT, (h, n) -> h.setUp(1, 1, 2, n, 2, 2), 0, 10, LEAST, MOST);
        refusedNumbers("votes", made, ARGUMENT, (h, n) -> h.setUp(1, 1, 2, 2, n, 2), -1, 10, LEAST, MOST);
        refusedNumbers("direction", made, ARGUMENT, (h, n) -> h.setUp(1, 1, 2, 2, 2, n), -1, 16, LEAST, MOST);

        says("Promise 5: IllegalStateException if there is one at this place, or there are 16.");
        refused("the place of the last one", made, STATE, h -> h.setUp(5, 3, 1, 1, 0, 0));
        refused("a 17th", VaneHouseEdgesTest::full, STATE, h -> h.setUp(11, 11, 1, 1, 0, 0));
        refused("a 17th at the place of another one", VaneHouseEdgesTest::full, STATE, h -> h.setUp(0, 0, 1, 1, 0, 0));
    }

    private static void oilAndTurn() {
        says("Promise 6: its rust is 0; returns its rust before.");
        VaneHouse most = rusted(9, 8, 9);
        due("the most rust", most.oil(0), 9);
        due("gone", most.vane(0, 5), 0);
        due("none", most.oil(0), 0);
        most.pass(1);
        turned("it turns again, 72 / 5", most, 0, 8, 8);

        says("Promise 6: there is no such vane.");
        refusedNumbers("none yet", VaneHouse::new, INDEX, (x, n) -> x.oil(n), 0);
        refusedNumbers("vane", VaneHouseEdgesTest::lively, INDEX, (x, n) -> x.oil(n), -1, 2, LEAST, MOST);
        refusedNumbers("of 16", VaneHouseEdgesTest::full, INDEX, (x, n) -> x.oil(n), 16);
        due("the last one of 16", full().oil(15), 0);

        says("Promise 7: its spin is 0 then; returns its direction before.");
        VaneHouse spinning = blown(0, 1, 8, 9);
        due("the direction before", spinning.turn(0, 15), 8);
        turned("turned", spinning, 0, 15, 0);
        due("to where it is", blown(0, 1, 8, 9).turn(0, 8), 8);
        due("no more from the spin", spinning.turn(0, 0), 15);

        says("Promise 7: there is no such vane; direction is not 0 to 15.");
        due("the least direction", lively().turn(0, 0) >= 0 ? 1 : 0, 1);
        due("the greatest direction", lively().turn(1, 15) >= 0 ? 1 : 0, 1);
        refusedNumbers("none yet", VaneHouse::new, INDEX, (x, n) -> x.turn(n, 0), 0);
        refusedNumbers("vane", VaneHouseEdgesTest::lively, INDEX, (x, n) -> x.turn(n, 0), -1, 2, LEAST, MOST);
        refusedNumbers("direction", VaneHouseEdgesTest::lively, ARGUMENT, (x, n) -> x.turn(0, n), -1, 16, LEAST, MOST);

        says("Promise 7: IllegalStateException if it is bound.");
        refused("for 4 hours", VaneHouseEdgesTest::bound, STATE, x -> x.turn(0, 8));
        refused("for one hour more", () -> boundBehind(3), STATE, x -> x.turn(0, 4));
        due("no more", boundBehind(4).turn(0, 4), 8);
        due("the other one is not", bound().turn(1, 4), 5);
    }

    private static VaneHouse boundBehind(int hours) {
        VaneHouse x = bound();
        x.pass(hours);
        return x;
    }

    // ---- Promises 10 to 13

    private static void promisesOfMotions() {
        says("Promise 10: direction is not 0 to 15, spread not 0 to 7, quorum not 0 to 99, or effect not 0 to 3.");
        VaneHouse x = new VaneHouse();
        due("the least", x.move(0, 0, 0, 0), 0);
        due("the greatest", x.move(15, 7, 99, 3), 1);
        int[] facts = {15, 7, 99, 3, 0, 0, 0, 0, 0};
        for (int what = 0; what < facts.length; what++) {
            due("fact " + what + " of the greatest", x.motion(1, what), facts[what]);
        }
        Supplier<VaneHouse> made = VaneHouseEdgesTest::lively;
        refusedNumbers("direction", made, ARGUMENT, (h, n) -> h.move(n, 1, 1, 1), -1, 16, LEAST, MOST);
        refusedNumbers("spread", made, ARGUMENT, (h, n) -> h.move(1, n, 1, 1), -1, 8, LEAST, MOST);
        refusedNumbers("quorum", made, ARGUMENT, (h, n) -> h.move(1, 1, n, 1), -1, 100, LEAST, MOST);
        refusedNumbers("effect", made, ARGUMENT, (h, n) -> h.move(1, 1, 1, n), -1, 4, LEAST, MOST);

        says("Promise 10: IllegalStateException if there are 12.");
        VaneHouse y = new VaneHouse();
        for (int i = 0; i < 12; i++) {
            due("its number", y.move(i, 0, 0, 0), i);
        }
        due("how many", y.count(2), 12);
        refused("a 13th", VaneHouseEdgesTest::full, STATE, h -> h.move(0, 0, 0, 0));
        put();

        says("Promise 12: there is no such motion, or what is not 0 to 8.");
        refusedNumbers("none yet", VaneHouse::new, INDEX, (h, n) -> h.motion(n, 0), 0, -1);
        refusedNumbers("motion", made, INDEX, (h, n) -> h.motion(n, 0), -1, 2, LEAST, MOST);
        refusedNumbers("of 12", VaneHouseEdgesTest::full, INDEX, (h, n) -> h.motion(n, 0), 12);
        refusedNumbers("what", made, INDEX, (h, n) -> h.motion(0, n), -1, 9, LEAST, MOST);
        due("the last one of 12", full().motion(11, 0), 11);

        says("Promise 12: the votes for it now, those against it now.");
        VaneHouse sides = calm(row(5, 9, 3, 2, 1, 4), row(0, 4, 8, 2, 14, 7));
        sides.move(0, 2, 0, 0);
        due("for it, just within", sides.motion(0, 4), 8);
        due("against it, just far enough", sides.motion(0, 5), 7);
        sides.turn(0, 8);
        due("for it, when one has turned", sides.motion(0, 4), 3);
        due("against it, when one has turned", sides.motion(0, 5), 12);
        due("nobody", motionAlone().motion(0, 4) + motionAlone().motion(0, 5), 0);

        says("Promise 12: how often it was voted on, how often it passed.");
        VaneHouse z = calm(row(1, 1), row(0, 8));
        z.move(0, 0, 0, 0);
        z.put(0, 0);
        z.put(0, 0);
        z.put(0, 1);
        due("never yet", z.motion(0, 7) * 10 + z.motion(0, 8), 0);
        z.pass(1);
        due("twice, and never passed", z.motion(0, 7) * 10 + z.motion(0, 8), 20);
        z.turn(1, 4);
        z.pass(1);
        due("three times, and passed once", z.motion(0, 7) * 10 + z.motion(0, 8), 31);

        says("Promise 13: there is no such motion or vane.");
        refusedNumbers("no vanes yet", VaneHouseEdgesTest::motionAlone, INDEX, (h, n) -> h.stand(0, n), 0);
        refusedNumbers("no motions yet", () -> calm(row(1), row(0)), INDEX, (h, n) -> h.stand(n, 0), 0);
        refusedNumbers("motion", made, INDEX, (h, n) -> h.stand(n, 0), -1, 2, LEAST, MOST);
        refusedNumbers("vane", made, INDEX, (h, n) -> h.stand(0, n), -1, 2, LEAST, MOST);
        due("the last motion and the last vane, 11 and 15", full().stand(11, 15), 0);
    }

    private static VaneHouse motionAlone() {
        VaneHouse x = new VaneHouse();
        x.move(0, 7, 0, 0);
        return x;
    }

    private static void put() {
        says("Promise 11: returns how many entries of the agenda are still to come.");
        VaneHouse x = motionAlone();
        due("the first", x.put(0, 0), 1);
        due("the same once more", x.put(0, 0), 2);
        due("the last hour of all", x.put(0, 2000), 3);
        x.pass(1);
        due("two have come", x.put(0, 1), 2);

        says("Promise 11: there is no such motion.");
        refusedNumbers("none yet", VaneHouse::new, INDEX, (h, n) -> h.put(n, 0), 0);
        refusedNumbers("motion", VaneHouseEdgesTest::lively, INDEX, (h, n) -> h.put(n, 5), -1, 2, LEAST, MOST);
        refusedNumbers("of 12", VaneHouseEdgesTest::fullButAgenda, INDEX, (h, n) -> h.put(n, 1999), 12);
        due("the last one of 12", fullButAgenda().put(11, 1999), 1);

        says("Promise 11: hour is less than the hour that is now, or greater than 2000 (one for 2000 never comes).");
        due("now", lively().put(0, 3), 3);
        due("2000", lively().put(0, 2000), 3);
        refusedNumbers("hour", VaneHouseEdgesTest::lively, ARGUMENT, (h, n) -> h.put(0, n), 2, 0, -1, 2001, LEAST, MOST);
        VaneHouse end = livelyAt(2000);
        int votings = end.motion(0, 7);
        due("in the hour 2000", end.put(0, 2000), 1);
        refusedNumbers("in the hour 2000", () -> livelyAt(2000), ARGUMENT, (h, n) -> h.put(0, n), 1999, 2001);
        VaneHouse never = livelyAt(1999);
        never.put(0, 2000);
        never.put(0, 1999);
        never.pass(1);
        due("that for 1999 was voted on, that for 2000 was not", never.motion(0, 7), votings + 1);
        due("it is still to come", never.count(4), 1);

        says("Promise 11: IllegalStateException if 20 are still to come.");
        VaneHouse most = motionAlone();
        for (int i = 1; i <= 20; i++) {
            due("how many", most.put(0, 2), i);
        }
        refused("a 21st", VaneHouseEdgesTest::full, STATE, h -> h.put(0, 0));
        refused("a 21st, the last hour", VaneHouseEdgesTest::full, STATE, h -> h.put(11, 2000));
        most.pass(2);
        due("all are still to come", most.count(4), 20);
        most.pass(1);
        due("none is still to come", most.count(4), 0);
        due("there is room again", most.put(0, 3), 1);
        VaneHouse one = full();
        one.pass(1);
        due("two have come", one.count(4), 18);
        due("so there is room for one", one.put(0, 1), 19);
        due("and for another one", one.put(0, 2000), 20);
    }

    private static VaneHouse fullButAgenda() {
        VaneHouse x = full();
        x.pass(10);
        return x;
    }

    // ---- Promises 14 to 17

    private static void promisesOfHours() {
        says("Promise 14: hours is not 1 to 100.");
        VaneHouse x = calm(row(1), row(0));
        x.move(0, 0, 0, 0);
        for (int hour : row(0, 99, 100, 101)) {
            x.put(0, hour);
        }
        due("100 hours, those of 0 and 99", x.pass(100), 2);
        due("behind them", x.count(0), 100);
        due("1 hour, that of 100", x.pass(1), 1);
        due("behind it", x.count(0), 101);
        refusedNumbers("hours", VaneHouseEdgesTest::lively, ARGUMENT, (h, n) -> h.pass(n), 0, -1, 101, LEAST, MOST);

        says("Promise 14: IllegalStateException if the hour would be greater than 2000.");
        VaneHouse y = livelyAt(1900);
        y.pass(100);
        due("from 1900 by 100", y.count(0), 2000);
        VaneHouse z = livelyAt(1999);
        z.pass(1);
        due("from 1999 by 1", z.count(0), 2000);
        refused("from 1901 by 100", () -> livelyAt(1901), STATE, h -> h.pass(100));
        refused("from 1999 by 2", () -> livelyAt(1999), STATE, h -> h.pass(2));
        refused("from 2000 by 1", () -> livelyAt(2000), STATE, h -> h.pass(1));
        refused("from 2000 by 100", () -> livelyAt(2000), STATE, h -> h.pass(100));

        counts();

        says("Promise 16: party is not 0 to 3, or what is not 0 to 1.");
        for (int party = 0; party < 4; party++) {
            due("nobody yet", new VaneHouse().party(party, 0) + new VaneHouse().party(party, 1), 0);
        }
        VaneHouse all = calm(row(1, 0, 9, 2, 3), row(14, 1, 13, 5, 6));
        due("0, at its edges", all.party(0, 0) * 10 + all.party(0, 1), 21);
        due("1", all.party(1, 0) * 10 + all.party(1, 1), 12);
        due("2", all.party(2, 0) * 10 + all.party(2, 1), 13);
        due("3", all.party(3, 0) * 10 + all.party(3, 1), 19);
        refusedNumbers("party", VaneHouseEdgesTest::lively, INDEX, (h, n) -> h.party(n, 0), -1, 4, 32, LEAST, MOST);
        refusedNumbers("what", VaneHouseEdgesTest::lively, INDEX, (h, n) -> h.party(0, n), -1, 2, LEAST, MOST);
        coalitions();
    }

    private static void counts() {
        says("Promise 15: what is not 0 to 8.");
        refusedNumbers("what", VaneHouseEdgesTest::lively, INDEX, (h, n) -> h.count(n), -1, 9, LEAST, MOST);
        VaneHouse most = full();
        int[] counts = {0, 16, 12, 24, 20, 60, 0, 0};
        for (int what = 0; what < counts.length; what++) {
            due("count " + what + " of a full town", most.count(what), counts[what]);
        }

        says("Promise 15: 6 motions that passed in all hours.");
        VaneHouse often = calm(row(1), row(0));
        often.move(0, 0, 0, 0);
        for (int hour : row(0, 0, 1, 3)) {
            often.put(0, hour);
        }
        int[] passed = {2, 3, 3, 4};
        for (int hour = 0; hour < passed.length; hour++) {
            often.pass(1);
            due("behind hour " + hour, often.count(6), passed[hour]);
        }

        says("Promise 15: 8 vanes at which the wind in the hour that is now is not stronger than their rust (bound ones not counted).");
        due("no vanes", windOf(0, 0, false).count(8), 0);
        due("no wind and no rust", calm(row(1, 2), row(0, 0)).count(8), 2);
        int[] stuck = {1, 1, 1, 1, 0, 0, 0, 0, 0, 0};
        for (int strength = 0; strength <= 9; strength++) {
            due("rust 3, strength " + strength, rusted(3, 8, strength).count(8), stuck[strength]);
        }
        due("rust 9, strength 9", rusted(9, 8, 9).count(8), 1);
        VaneHouse sheltered = rusted(3, 4, 5);
        sheltered.setUp(4, 5, 9, 1, 1, 0);
        due("strength 5, but 3 at it", sheltered.count(8), 1);
        VaneHouse held = bound();
        held.beginWind(0, 0, false);
        due("of two in no wind one is bound", held.count(8) * 10 + held.count(7), 11);
        held.pass(3);
        due("for one hour more", held.count(8) * 10 + held.count(7), 11);
        held.pass(1);
        due("and no more", held.count(8) * 10 + held.count(7), 20);
        VaneHouse later = windOf(0, 9, false);
        later.addWind(0, 0, false);
        later.setUp(0, 0, 1, 1, 1, 0);
        due("in hour 0", later.count(8), 0);
        later.pass(1);
        due("in hour 1", later.count(8), 1);
    }

    private static void coalitions() {
        says("Promise 17: the fewest parties that have more than half of all votes together.");
        due("half of them is not enough", coalition(5, 5, 0, 0), 3);
        due("just more than half", coalition(5, 4, 0, 0), 1);
        due("just less than half", coalition(4, 5, 0, 0), 2);
        due("half against two", coalition(4, 2, 2, 0), 3);
        due("one suffices, though two have more", coalition(1, 1, 1, 4), 8);
        due("three of four that are even", coalition(3, 3, 3, 3), 7);
        due("one that has all", coalition(0, 0, 0, 1), 8);
        due("half in two, so three", coalition(2, 2, 2, 2), 7);
        due("odd sum, 3 of 5", coalition(2, 1, 1, 1), 3);

        says("Promise 17: of several that with the most votes.");
        due("not the least one", coalition(3, 3, 4, 0), 5);
        due("the last two", coalition(2, 2, 3, 3), 12);
        due("the middle ones", coalition(3, 4, 4, 3), 6);

        says("Promise 17: of these the least one.");
        due("of three pairs", coalition(3, 3, 3, 0), 3);
        due("of three pairs without 0", coalition(0, 3, 3, 3), 6);
        due("1 and 3 as 2 and 3", coalition(0, 2, 2, 3), 10);
        due("0 and 3 as 1 and 3", coalition(2, 2, 1, 3), 9);

        says("Promise 17: 0 if there are no votes.");
        due("no vanes", new VaneHouse().coalition(), 0);
        due("vanes without votes", coalition(0, 0, 0, 0), 0);
    }

    private static int coalition(int north, int east, int south, int west) {
        return calm(row(north, east, south, west), row(0, 4, 8, 12)).coalition();
    }

    // ---- Promises 18 to 22

    private static void promisesOfLookingAhead() {
        foresee();
        passes();
        advise();

        says("Promise 21: the mean of the distances; 0 if there are none.");
        due("none", new VaneHouse().discord(), 0);
        due("the least", calm(row(0), row(0)).discord(), 0);
        due("the greatest", calm(row(0, 9), row(8, 8)).discord(), 8);
        due("a mean that is not whole", calm(row(0, 0), row(15, 0)).discord(), 0.5);
        due("thirds", calm(row(0, 0, 0), row(9, 7, 0)).discord(), 14.0 / 3);
        VaneHouse x = calm(row(1), row(3));
        x.addWind(11, 0, false);
        due("in hour 0", x.discord(), 3);
        x.pass(1);
        due("in hour 1, half round", x.discord(), 8);
        digests();
    }

    private static void foresee() {
        says("Promise 18: hours is not 0 to 100.");
        VaneHouse x = windOf(8, 1, false);
        x.setUp(0, 0, 1, 9, 1, 5);
        int[] directions = {5, 6, 7, 8, 8};
        for (int hours = 0; hours < directions.length; hours++) {
            due("in " + hours, x.foresee(0, hours), directions[hours]);
        }
        due("in 100", x.foresee(0, 100), 8);
        VaneHouse y = windOf(0, 0, false);
        for (int i = 1; i < 20; i++) {
            y.addWind(0, i == 19 ? 1 : 0, false);
        }
        y.setUp(0, 0, 1, 9, 1, 5);
        due("a step in each of the hours 19, 39, 59 and 79", y.foresee(0, 99), 1);
        due("and in hour 99, the last of 100", y.foresee(0, 100), 0);
        y.pass(100);
        due("so it comes", y.vane(0, 6), 0);
        refusedNumbers("hours", VaneHouseEdgesTest::lively, ARGUMENT, (h, n) -> h.foresee(0, n), -1, 101, LEAST, MOST);

        says("Promise 18: there is no such vane.");
        refusedNumbers("none yet", VaneHouse::new, INDEX, (h, n) -> h.foresee(n, 0), 0);
        refusedNumbers("vane", VaneHouseEdgesTest::lively, INDEX, (h, n) -> h.foresee(n, 1), -1, 2, LEAST, MOST);
        refusedNumbers("of 16", VaneHouseEdgesTest::full, INDEX, (h, n) -> h.foresee(n, 1), 16);
        due("the last one of 16", full().foresee(15, 0), 15);

        says("Promise 18: IllegalStateException if the hour would be greater than 2000.");
        VaneHouse before = livelyAt(1900);
        int foreseen = before.foresee(1, 100);
        before.pass(100);
        due("from 1900 by 100", before.vane(1, 6), foreseen);
        due("from 2000 by 0", before.foresee(1, 0), foreseen);
        refused("from 1901 by 100", () -> livelyAt(1901), STATE, h -> h.foresee(0, 100));
        refused("from 2000 by 1", () -> livelyAt(2000), STATE, h -> h.foresee(0, 1));

        says("Promise 18: its direction, if so many hours went by from now on.");
        asItComes(VaneHouseEdgesTest::lively);
        asItComes(VaneHouseEdgesTest::full);
        asItComes(VaneHouseEdgesTest::bound);
        asItComes(() -> boundBehind(3));
        asItComes(VaneHouseEdgesTest::rustingSoon);

        says("Promise 18: nothing is changed.");
        unchanged(VaneHouseEdgesTest::lively, h -> h.foresee(0, 100));
        unchanged(VaneHouseEdgesTest::full, h -> h.foresee(15, 50));
    }

    private static void asItComes(Supplier<VaneHouse> made) {
        for (int hours = 1; hours <= 12; hours++) {
            VaneHouse x = made.get();
            VaneHouse y = made.get();
            y.beginWind(4, 6, true);
            x.beginWind(4, 6, true);
            y.pass(hours);
            for (int vane = 0; vane < x.count(1); vane++) {
                due("vane " + vane + " in " + hours + " hours", x.foresee(vane, hours), y.vane(vane, 6));
            }
        }
    }

    /** Ten rainy hours are behind it: the next one is its eleventh, and rust 6 stops the wind that rust 5 does not. */
    private static VaneHouse rustingSoon() {
        VaneHouse x = windOf(NORTH, 0, true);
        x.setUp(0, 0, 1, 9, 1, 15);
        x.pass(10);
        return x;
    }

    private static void unchanged(Supplier<VaneHouse> made, ToLongFunction<VaneHouse> call) {
        VaneHouse asked = made.get();
        long first = call.applyAsLong(asked);
        same("the same answer once more", call.applyAsLong(asked), first);
        same("no later answer is another one", laterAnswers(asked).equals(laterAnswers(made.get())) ? 1 : 0, 1);
    }

    /** Motion 0 needs one vote more than there is; motion 1, put for this hour, gives it. */
    private static VaneHouse votesIn(int hour) {
        VaneHouse x = calm(row(3, 1, 0), row(0, 8, 0));
        x.move(0, 0, 5, 0);
        x.move(0, 0, 0, 3);
        x.put(1, hour);
        return x;
    }

    private static void passes() {
        says("Promise 19: hours is not 1 to 100; -1 if none of so many is it.");
        due("in 100, the last of them", votesIn(98).passes(0, 100), 99);
        due("in 99 none", votesIn(98).passes(0, 99), -1);
        due("in 100 none", votesIn(99).passes(0, 100), -1);
        due("in 1", votesIn(0).passes(1, 1), 0);
        due("in 1 none", votesIn(0).passes(0, 1), -1);
        refusedNumbers("hours", VaneHouseEdgesTest::lively, ARGUMENT, (h, n) -> h.passes(0, n), 0, -1, 101, LEAST, MOST);

        says("Promise 19: the first hour, from that which is now on, behind whose step 1 it would pass.");
        VaneHouse x = windOf(8, 9, false);
        x.setUp(0, 0, 1, 1, 1, 0);
        x.move(0, 0, 0, 0);
        x.move(8, 0, 0, 0);
        due("it would pass now, but not behind step 1", x.passes(0, 100), -1);
        due("it would not pass now, but behind step 1", x.passes(1, 1), 0);
        x.pass(7);
        x.turn(0, 0);
        due("told by its number, not from now on", x.passes(1, 100), 7);

        says("Promise 19: (the agenda is done in all hours ahead of it).");
        due("not in that hour itself", votesIn(3).passes(0, 4), -1);
        due("in the hour behind", votesIn(3).passes(0, 5), 4);
        VaneHouse wet = windOf(8, 1, true);
        wet.setUp(0, 0, 1, 9, 1, 5);
        wet.move(6, 0, 0, 0);
        wet.move(7, 0, 0, 0);
        due("it rains too: it comes to 6", wet.passes(0, 100), 0);
        due("but it is rusted before it comes to 7", wet.passes(1, 100), -1);

        says("Promise 19: there is no such motion.");
        refusedNumbers("none yet", VaneHouse::new, INDEX, (h, n) -> h.passes(n, 1), 0);
        refusedNumbers("motion", VaneHouseEdgesTest::lively, INDEX, (h, n) -> h.passes(n, 1), -1, 2, LEAST, MOST);
        refusedNumbers("of 12", VaneHouseEdgesTest::full, INDEX, (h, n) -> h.passes(n, 1), 12);
        due("no vanes, so it never passes", motionAlone().passes(0, 100), -1);

        says("Promise 19: IllegalStateException if the hour would be greater than 2000.");
        due("from 1900 by 100", livelyAt(1900).passes(0, 100) >= -1 ? 1 : 0, 1);
        VaneHouse late = calm(row(1), row(0));
        late.move(0, 0, 0, 0);
        for (int i = 0; i < 20; i++) {
            late.pass(i == 0 ? 99 : 100);
        }
        due("the last hour", late.passes(0, 1), 1999);
        refused("from 1901 by 100", () -> livelyAt(1901), STATE, h -> h.passes(0, 100));
        refused("from 1999 by 2", () -> livelyAt(1999), STATE, h -> h.passes(0, 2));
        refused("from 2000 by 1", () -> livelyAt(2000), STATE, h -> h.passes(0, 1));

        says("Promise 19: nothing is changed.");
        unchanged(VaneHouseEdgesTest::lively, h -> h.passes(0, 100));
        unchanged(VaneHouseEdgesTest::full, h -> h.passes(11, 100));
    }

    /**
     * Hour 6, all with rust 3 in a wind of 3 to the south: vane 0 points there, vanes 1 and 2 so many steps from it.
     * Of their votes, 1 and 2 and 2, motion 0 needs 3 (and brings more), motion 1 as many as the quorum.
     */
    private static VaneHouse stuck(int first, int second, int quorum) {
        VaneHouse x = windOf(8, 0, true);
        x.setUp(0, 0, 1, 9, 1, 8);
        x.setUp(4, 0, 1, 9, 2, 8 - first);
        x.setUp(8, 0, 1, 9, 2, 8 + second);
        x.pass(6);
        x.beginWind(8, 3, false);
        x.move(8, 2, 3, 3);
        x.move(8, 2, quorum, 0);
        return x;
    }

    private static void advise() {
        says("Promise 20: hours is not 1 to 50.");
        VaneHouse x = stuck(4, 4, 5);
        x.put(0, 54);
        due("in 50, the last of them: oiled, motion 0 passes in hour 54 and brings 5 votes", x.advise(1, 50), 1);
        due("in 49 none", x.advise(1, 49), -1);
        due("in 1", stuck(3, 4, 1).advise(0, 1), 1);
        refusedNumbers("hours", VaneHouseEdgesTest::lively, ARGUMENT, (h, n) -> h.advise(0, n), 0, -1, 51, 100, LEAST, MOST);

        says("Promise 20: so that a motion could pass as early as can be, in at most so many hours.");
        due("4, 5 and 6 behind the second hour", stuck(4, 4, 1).advise(0, 2), 1);
        due("one hour is too few", stuck(4, 4, 1).advise(0, 1), -1);
        due("the second is nearer", stuck(4, 3, 1).advise(0, 50), 2);
        VaneHouse alone = rusted(3, 8, 3);
        alone.move(8, 0, 0, 0);
        due("there is but vane 0", alone.advise(0, 50), 0);
        due("the first is nearer", stuck(3, 4, 1).advise(0, 50), 1);

        says("Promise 20: of several the one with the smallest number.");
        due("both are as near", stuck(4, 4, 1).advise(0, 50), 1);
        due("both are as near, in one hour", stuck(3, 3, 1).advise(0, 50), 1);

        says("Promise 20: but none, if it is not earlier than without oil.");
        due("it passes in the hour that is now", stuck(4, 4, 1).advise(1, 50), -1);
        VaneHouse turning = windOf(8, 1, false);
        turning.setUp(0, 0, 1, 9, 1, 5);
        turning.move(8, 0, 0, 0);
        due("without rust it comes there in hour 2", turning.passes(0, 50), 2);
        due("and with oil as well", turning.advise(0, 50), -1);

        says("Promise 20: (if it would not pass at all without, any hour is earlier).");
        due("the last hour of two", stuck(4, 4, 1).advise(0, 2), 1);
        due("never with oil either", stuck(4, 4, 6).advise(1, 50), -1);
        due("two would have to be oiled", stuck(4, 4, 5).advise(1, 50), -1);
        due("no vanes", motionAlone().advise(0, 50), -1);

        says("Promise 20: there is no such motion.");
        refusedNumbers("none yet", VaneHouse::new, INDEX, (h, n) -> h.advise(n, 1), 0);
        refusedNumbers("motion", VaneHouseEdgesTest::lively, INDEX, (h, n) -> h.advise(n, 1), -1, 2, LEAST, MOST);
        refusedNumbers("of 12", VaneHouseEdgesTest::full, INDEX, (h, n) -> h.advise(n, 1), 12);

        says("Promise 20: IllegalStateException if the hour would be greater than 2000.");
        due("from 1950 by 50", livelyAt(1950).advise(0, 50) >= -1 ? 1 : 0, 1);
        due("from 1999 by 1", livelyAt(1999).advise(0, 1) >= -1 ? 1 : 0, 1);
        refused("from 1951 by 50", () -> livelyAt(1951), STATE, h -> h.advise(0, 50));
        refused("from 1999 by 2", () -> livelyAt(1999), STATE, h -> h.advise(0, 2));
        refused("from 2000 by 1", () -> livelyAt(2000), STATE, h -> h.advise(0, 1));

        says("Promise 20: nothing is changed.");
        unchanged(() -> stuck(4, 4, 5), h -> h.advise(0, 50));
        unchanged(VaneHouseEdgesTest::full, h -> h.advise(11, 50));
    }

    private static void digests() {
        says("Promise 22: d starts with 503, and wraps around as a 64-bit integer.");
        long d = 503;
        for (int number : row(0, 0, 0, 1, 0, 0, 0, 0, 0, 0, 5, 0)) {
            d = d * 31 + number;
        }
        same("nothing but a wind", new VaneHouse().digest(), d);
        same("a full town", full().digest(), digestAsTold(full(), agendaOfFull()));
        same("lively", lively().digest(), digestAsTold(lively(), row(0, 9, 1, 4)));

        says("Promise 22: each entry that is still to come, in the order in which they were put, its motion and its hour.");
        VaneHouse x = motionAlone();
        x.move(1, 1, 1, 1);
        same("none", x.digest(), digestAsTold(x, row()));
        x.put(1, 2000);
        x.put(0, 1);
        x.put(1, 0);
        x.put(0, 0);
        x.put(1, 1);
        same("all", x.digest(), digestAsTold(x, row(1, 2000, 0, 1, 1, 0, 0, 0, 1, 1)));
        x.pass(1);
        same("two have come", x.digest(), digestAsTold(x, row(1, 2000, 0, 1, 1, 1)));
        x.pass(1);
        same("four have come", x.digest(), digestAsTold(x, row(1, 2000)));
    }

    private static int[] agendaOfFull() {
        int[] agenda = new int[40];
        for (int i = 0; i < 20; i++) {
            agenda[2 * i] = i % 12;
            agenda[2 * i + 1] = 9 - i / 2;
        }
        return agenda;
    }

    /** By whole numbers without a bound, and cut to 64 bits in the end. */
    private static long digestAsTold(VaneHouse x, int[] agenda) {
        List<Integer> numbers = new ArrayList<>();
        for (int what = 0; what <= 8; what++) {
            numbers.add(x.count(what));
        }
        for (int entry = 0; entry < x.count(3); entry++) {
            for (int what = 0; what <= 2; what++) {
                numbers.add(x.wind(entry, what));
            }
        }
        for (int vane = 0; vane < x.count(1); vane++) {
            for (int what = 0; what <= 11; what++) {
                numbers.add(x.vane(vane, what));
            }
        }
        for (int motion = 0; motion < x.count(2); motion++) {
            for (int what = 0; what <= 8; what++) {
                numbers.add(x.motion(motion, what));
            }
        }
        for (int number : agenda) {
            numbers.add(number);
        }
        BigInteger d = BigInteger.valueOf(503);
        for (int number : numbers) {
            d = d.multiply(BigInteger.valueOf(31)).add(BigInteger.valueOf(number));
        }
        return d.longValue();
    }

    // ---- which exception comes first

    private static void whichExceptionComesFirst() {
        Supplier<VaneHouse> full = VaneHouseEdgesTest::full;
        says("If several exceptions apply, the one that is named first is thrown: addWind.");
        refusedNumbers("a wrong direction, and 24 there", full, ARGUMENT, (x, n) -> x.addWind(n, 0, true), -1, 16);
        refusedNumbers("a wrong strength, and 24 there", full, ARGUMENT, (x, n) -> x.addWind(0, n, true), -1, 10);

        says("If several exceptions apply, the one that is named first is thrown: wind.");
        refusedNumbers("no such hour, and no such what", full, ARGUMENT, (x, n) -> x.wind(-1, n), -1, 3);

        says("If several exceptions apply, the one that is named first is thrown: setUp.");
        refused("a wrong column, and 16 there", full, ARGUMENT, x -> x.setUp(12, 0, 1, 1, 0, 0));
        refused("a wrong row, and 16 there", full, ARGUMENT, x -> x.setUp(0, 12, 1, 1, 0, 0));
        refused("a wrong height, and 16 there", full, ARGUMENT, x -> x.setUp(11, 11, 0, 1, 0, 0));
        refused("a wrong weight, and one at the place", VaneHouseEdgesTest::lively, ARGUMENT, x -> x.setUp(5, 5, 1, 0, 0, 0));
        refused("wrong votes, and one at the place", VaneHouseEdgesTest::lively, ARGUMENT, x -> x.setUp(5, 5, 1, 1, 10, 0));
        refused("a wrong direction, and one at the place", VaneHouseEdgesTest::lively, ARGUMENT, x -> x.setUp(5, 5, 1, 1, 0, 16));

        says("If several exceptions apply, the one that is named first is thrown: turn.");
        refusedNumbers("no such vane, and a wrong direction", VaneHouseEdgesTest::bound, INDEX, (x, n) -> x.turn(n, 16), -1, 2);
        refusedNumbers("a wrong direction, and it is bound", VaneHouseEdgesTest::bound, ARGUMENT, (x, n) -> x.turn(0, n), -1, 16);

        says("If several exceptions apply, the one that is named first is thrown: move.");
        refused("a wrong direction, and 12 there", full, ARGUMENT, x -> x.move(16, 0, 0, 0));
        refused("a wrong spread, and 12 there", full, ARGUMENT, x -> x.move(0, 8, 0, 0));
        refused("a wrong quorum, and 12 there", full, ARGUMENT, x -> x.move(0, 0, 100, 0));
        refused("a wrong effect, and 12 there", full, ARGUMENT, x -> x.move(0, 0, 0, 4));

        says("If several exceptions apply, the one that is named first is thrown: put.");
        refusedNumbers("no such motion, a wrong hour, and 20 to come", full, INDEX, (x, n) -> x.put(12, n), -1, 0, 2001);
        refusedNumbers("a wrong hour, and 20 to come", full, ARGUMENT, (x, n) -> x.put(0, n), -1, 2001);

        Supplier<VaneHouse> end = () -> livelyAt(2000);
        says("If several exceptions apply, the one that is named first is thrown: pass.");
        refusedNumbers("wrong hours, beyond 2000", end, ARGUMENT, (x, n) -> x.pass(n), 0, 101, MOST);

        says("If several exceptions apply, the one that is named first is thrown: foresee.");
        refusedNumbers("no such vane, beyond 2000", end, INDEX, (x, n) -> x.foresee(2, n), -1, 1, 101);
        refusedNumbers("wrong hours, beyond 2000", end, ARGUMENT, (x, n) -> x.foresee(0, n), -1, 101, MOST);

        says("If several exceptions apply, the one that is named first is thrown: passes.");
        refusedNumbers("no such motion, beyond 2000", end, INDEX, (x, n) -> x.passes(2, n), 0, 1, 101);
        refusedNumbers("wrong hours, beyond 2000", end, ARGUMENT, (x, n) -> x.passes(0, n), 0, 101, MOST);

        says("If several exceptions apply, the one that is named first is thrown: advise.");
        refusedNumbers("no such motion, beyond 2000", end, INDEX, (x, n) -> x.advise(2, n), 0, 1, 51);
        refusedNumbers("wrong hours, beyond 2000", end, ARGUMENT, (x, n) -> x.advise(0, n), 0, 51, MOST);
    }

    private static void calls512() {
        says("An object is used for at most 512 calls.");
        VaneHouse x = full();
        int built = 1 + 23 + 16 + 12 + 20;
        int first = x.advise(11, 50);
        for (int call = built + 2; call < 512; call++) {
            due("the dearest call, again and again", x.advise(11, 50), first);
        }
        same("the 512th", x.digest(), full().digest());
    }
}
