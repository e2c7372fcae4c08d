import java.util.ArrayList;
import java.util.Arrays;
import java.util.List;
import java.util.Random;

/** Long runs of calls, each answer against that of a second model, which is written from the document in another way. */
public final class VaneHouseModelTest {
    private static final int RUNS = 500;
    private static final int CALLS = 512;

    public static void main(String[] args) {
        long answers = 0;
        for (int seed = 0; seed < RUNS; seed++) {
            Run run = new Run(seed);
            for (int call = 0; call < CALLS; call++) {
                run.step();
                if (run.got != run.want) {
                    System.out.println("seed " + seed + ", call " + call + ": " + run.text
                        + " answered " + run.got + ", due is " + run.want);
                    System.exit(1);
                }
                answers++;
            }
        }
        System.out.println("VaneHouseModelTest: " + answers + " answers right, 0 wrong");
    }

    /** One object and one model, and what they answer to the same calls; an exception counts as an answer. */
    private static final class Run {
        private final Random random;
        private final VaneHouse house = new VaneHouse();
        private final Model model = new Model();
        private final int places;
        private final int wildness;
        private String text;
        private long got;
        private long want;

        Run(int seed) {
            random = new Random(seed);
            places = 3 + random.nextInt(10);
            wildness = random.nextInt(4) == 0 ? 4 : 40;
            if (seed % 5 == 0) {
                beginLate();
            }
        }

        /** Near the last hour, which the runs would not come to otherwise. */
        private void beginLate() {
            for (int i = 0; i < 19; i++) {
                house.pass(100);
                model.pass(100);
            }
            house.pass(70);
            model.pass(70);
        }

        int pick(int least, int most) {
            if (random.nextInt(wildness) == 0) {
                int[] wild = {least - 1, most + 1, -1, 99, 101, Integer.MIN_VALUE, Integer.MAX_VALUE};
                return wild[random.nextInt(wild.length)];
            }
            return least + random.nextInt(Math.max(1, most - least + 1));
        }

        int vane() {
            return pick(0, model.vanes.size() - 1);
        }

        int motion() {
            return pick(0, model.motions.size() - 1);
        }

        void step() {
            int kind = random.nextInt(24);
            int[] a = arguments(kind);
            text = "call " + kind + " of " + Arrays.toString(a);
            got = answer(() -> ask(kind, a));
            want = answer(() -> model.ask(kind, a));
            if (got == want) {
                text = "digest behind " + text;
                got = house.digest();
                want = model.digest();
            }
        }

        private int[] arguments(int kind) {
            switch (kind) {
                case 0: return random.nextInt(4) == 0 ? row(pick(0, 15), pick(0, 9), random.nextInt(2)) : row(16, 0, 0);
                case 1: return row(pick(0, 15), pick(0, 9), random.nextInt(3) / 2);
                case 2: return row(pick(0, 3000), pick(0, 2));
                case 3: case 4: return row(pick(0, places - 1), pick(0, places - 1), pick(1, 9), pick(1, 9), pick(0, 9), pick(0, 15));
                case 5: return row(vane());
                case 6: return row(vane(), pick(0, 15));
                case 7: case 8: return row(vane(), pick(0, 11));
                case 9: return row(pick(0, 15), pick(0, 15));
                case 10: return row(pick(0, 15), pick(0, 7), pick(0, random.nextBoolean() ? 9 : 99), pick(0, 3));
                case 11: case 12: return row(motion(), model.hour + pick(0, random.nextInt(20) == 0 ? 3000 : 8));
                case 13: return row(motion(), pick(0, 8));
                case 14: return row(motion(), vane());
                case 15: return row(pick(1, random.nextInt(30) == 0 ? 100 : 6));
                case 16: return row(pick(0, 8));
                case 17: return row(pick(0, 3), pick(0, 1));
                case 19: return row(vane(), pick(0, 100));
                case 20: return row(motion(), pick(1, 100));
                case 21: return row(motion(), pick(1, 50));
                default: return row();
            }
        }

        private long ask(int kind, int[] a) {
            switch (kind) {
                case 0: return house.beginWind(a[0], a[1], a[2] == 1);
                case 1: return house.addWind(a[0], a[1], a[2] == 1);
                case 2: return house.wind(a[0], a[1]);
                case 3: case 4: return house.setUp(a[0], a[1], a[2], a[3], a[4], a[5]);
                case 5: return house.oil(a[0]);
                case 6: return house.turn(a[0], a[1]);
                case 7: case 8: return house.vane(a[0], a[1]);
                case 9: return house.difference(a[0], a[1]);
                case 10: return house.move(a[0], a[1], a[2], a[3]);
                case 11: case 12: return house.put(a[0], a[1]);
                case 13: return house.motion(a[0], a[1]);
                case 14: return house.stand(a[0], a[1]);
                case 15: return house.pass(a[0]);
                case 16: return house.count(a[0]);
                case 17: return house.party(a[0], a[1]);
                case 18: return house.coalition();
                case 19: return house.foresee(a[0], a[1]);
                case 20: return house.passes(a[0], a[1]);
                case 21: return house.advise(a[0], a[1]);
                case 22: return Double.doubleToLongBits(house.discord());
                default: return house.digest();
            }
        }
    }

    private interface Call {
        long answer();
    }

    private static int[] row(int... numbers) {
        return numbers;
    }

    private static long answer(Call call) {
        try {
            return call.answer();
        } catch (RuntimeException e) {
            return -1000000 - e.getClass().getName().hashCode();
        }
    }

    /** The town as the document tells it: rows of numbers, and whatever looks ahead works on a copy of all. */
    private static final class Model {
        // column, row, height, weight, votes, rust, direction, spin, bound, rainy hours
        private final List<int[]> vanes = new ArrayList<>();
        // direction, spread, quorum, effect, voted on, passed
        private final List<int[]> motions = new ArrayList<>();
        // motion, hour
        private final List<int[]> agenda = new ArrayList<>();
        private final List<int[]> winds = new ArrayList<>();
        private int hour;
        private int passed;

        Model() {
            winds.add(row(0, 5, 0));
        }

        Model copy() {
            Model m = new Model();
            m.winds.clear();
            copyRows(winds, m.winds);
            copyRows(vanes, m.vanes);
            copyRows(motions, m.motions);
            copyRows(agenda, m.agenda);
            m.hour = hour;
            m.passed = passed;
            return m;
        }

        static void copyRows(List<int[]> from, List<int[]> to) {
            for (int[] r : from) {
                to.add(r.clone());
            }
        }

        static void argument(int x, int least, int most) {
            if (x < least || x > most) throw new IllegalArgumentException();
        }

        static void index(int x, int size) {
            if (x < 0 || x >= size) throw new IndexOutOfBoundsException();
        }

        static void state(boolean good) {
            if (!good) throw new IllegalStateException();
        }

        long ask(int kind, int[] a) {
            switch (kind) {
                case 0: return beginWind(a);
                case 1: return addWind(a);
                case 2:
                    argument(a[0], 0, Integer.MAX_VALUE);
                    index(a[1], 3);
                    return entry(a[0])[a[1]];
                case 3: case 4: return setUp(a);
                case 5: return oil(a[0]);
                case 6: return turn(a[0], a[1]);
                case 7: case 8:
                    index(a[0], vanes.size());
                    index(a[1], 12);
                    return tell(vanes.get(a[0]))[a[1]];
                case 9:
                    argument(a[0], 0, 15);
                    argument(a[1], 0, 15);
                    return difference(a[0], a[1]);
                case 10: return move(a);
                case 11: case 12: return put(a[0], a[1]);
                case 13:
                    index(a[0], motions.size());
                    index(a[1], 9);
                    return tellMotion(motions.get(a[0]))[a[1]];
                case 14:
                    index(a[0], motions.size());
                    index(a[1], vanes.size());
                    return stand(motions.get(a[0]), vanes.get(a[1]));
                case 15: return pass(a[0]);
                case 16:
                    index(a[0], 9);
                    return counts()[a[0]];
                case 17:
                    index(a[0], 4);
                    index(a[1], 2);
                    return parties()[a[1]][a[0]];
                case 18: return coalition();
                case 19: return foresee(a[0], a[1]);
                case 20: return passes(a[0], a[1], 100);
                case 21: return advise(a[0], a[1]);
                case 22: return Double.doubleToLongBits(discord());
                default: return digest();
            }
        }

        int[] entry(int when) {
            return winds.get(when % winds.size());
        }

        long beginWind(int[] a) {
            argument(a[0], 0, 15);
            argument(a[1], 0, 9);
            int before = winds.size();
            winds.clear();
            winds.add(a.clone());
            return before;
        }

        long addWind(int[] a) {
            argument(a[0], 0, 15);
            argument(a[1], 0, 9);
            state(winds.size() < 24);
            winds.add(a.clone());
            return winds.size();
        }

        long setUp(int[] a) {
            argument(a[0], 0, 11);
            argument(a[1], 0, 11);
            argument(a[2], 1, 9);
            argument(a[3], 1, 9);
            argument(a[4], 0, 9);
            argument(a[5], 0, 15);
            for (int[] v : vanes) {
                state(v[0] != a[0] || v[1] != a[1]);
            }
            state(vanes.size() < 16);
            vanes.add(row(a[0], a[1], a[2], a[3], a[4], 0, a[5], 0, 0, 0));
            return vanes.size() - 1;
        }

        long oil(int vane) {
            index(vane, vanes.size());
            int[] v = vanes.get(vane);
            int before = v[5];
            v[5] = 0;
            v[9] = 0;
            return before;
        }

        long turn(int vane, int direction) {
            index(vane, vanes.size());
            argument(direction, 0, 15);
            int[] v = vanes.get(vane);
            state(v[8] == 0);
            int before = v[6];
            v[6] = direction;
            v[7] = 0;
            return before;
        }

        static int difference(int a, int b) {
            int d = b - a;
            while (d < -7) d += 16;
            while (d > 8) d -= 16;
            return d;
        }

        int lee(int[] v, int[] entry) {
            int source = (entry[0] + 8) % 16;
            int eighth = (source + 1) / 2 % 8;
            int east = eighth >= 1 && eighth <= 3 ? 1 : eighth >= 5 ? -1 : 0;
            int south = eighth >= 3 && eighth <= 5 ? 1 : eighth == 2 || eighth == 6 ? 0 : -1;
            int found = 0;
            for (int k = 1; k <= 3; k++) {
                for (int[] w : vanes) {
                    if (w[0] - v[0] == k * east && w[1] - v[1] == k * south && w[2] > v[2]) found++;
                }
            }
            return found;
        }

        int windAt(int[] v, int[] entry) {
            return Math.max(0, entry[1] - 2 * lee(v, entry));
        }

        int[] tell(int[] v) {
            int[] facts = Arrays.copyOf(v, 12);
            facts[9] = (v[6] + 2) / 4 % 4;
            facts[10] = windAt(v, entry(hour));
            facts[11] = lee(v, entry(hour));
            return facts;
        }

        long move(int[] a) {
            argument(a[0], 0, 15);
            argument(a[1], 0, 7);
            argument(a[2], 0, 99);
            argument(a[3], 0, 3);
            state(motions.size() < 12);
            motions.add(Arrays.copyOf(a, 6));
            return motions.size() - 1;
        }

        long put(int motion, int when) {
            index(motion, motions.size());
            argument(when, hour, 2000);
            state(toCome() < 20);
            agenda.add(row(motion, when));
            return toCome();
        }

        int toCome() {
            int n = 0;
            for (int[] e : agenda) {
                if (e[1] >= hour) n++;
            }
            return n;
        }

        static int stand(int[] m, int[] v) {
            int distance = Math.abs(difference(v[6], m[0]));
            if (distance <= m[1]) return 1;
            if (distance >= 8 - m[1] / 2) return -1;
            return 0;
        }

        int votes(int[] m, int side) {
            int n = 0;
            for (int[] v : vanes) {
                if (stand(m, v) == side) n += v[4];
            }
            return n;
        }

        boolean wouldPass(int[] m) {
            return votes(m, 1) + votes(m, -1) >= m[2] && votes(m, 1) > votes(m, -1);
        }

        int[] tellMotion(int[] m) {
            return row(m[0], m[1], m[2], m[3], votes(m, 1), votes(m, -1), wouldPass(m) ? 1 : 0, m[4], m[5]);
        }

        void stepOne() {
            int[] e = entry(hour);
            for (int[] v : vanes) {
                if (v[8] > 0) {
                    v[8]--;
                    v[7] = 0;
                    continue;
                }
                int wind = windAt(v, e);
                if (wind <= v[5]) {
                    v[7] = 0;
                    continue;
                }
                int d = difference(v[6], e[0]);
                int spin = (v[7] * v[3] + d * wind) / (v[3] + 4 + v[5]);
                if (spin > 8) spin = 8;
                if (spin < -8) spin = -8;
                if (spin == 0 && d > 0) spin = 1;
                if (spin == 0 && d < 0) spin = -1;
                v[7] = spin;
                v[6] = (v[6] + spin + 16) % 16;
            }
        }

        void stepTwo() {
            for (int[] e : agenda) {
                if (e[1] != hour) continue;
                int[] m = motions.get(e[0]);
                m[4]++;
                if (!wouldPass(m)) continue;
                m[5]++;
                passed++;
                for (int[] v : vanes) {
                    int side = stand(m, v);
                    if (m[3] == 1 && side == 1) {
                        v[5] = 0;
                        v[9] = 0;
                    }
                    if (m[3] == 2 && side == -1 && v[8] < 4) v[8] = 4;
                    if (m[3] == 3 && side == 1 && v[4] < 9) v[4]++;
                    if (m[3] == 3 && side == -1 && v[4] > 0) v[4]--;
                }
            }
        }

        void stepThree() {
            if (entry(hour)[2] == 1) {
                for (int[] v : vanes) {
                    v[9]++;
                    if (v[9] % 2 != 0 && v[5] < 9) v[5]++;
                }
            }
            hour++;
        }

        long pass(int hours) {
            argument(hours, 1, 100);
            state(hour + hours <= 2000);
            int before = passed;
            for (int i = 0; i < hours; i++) {
                stepOne();
                stepTwo();
                stepThree();
            }
            return passed - before;
        }

        int[] counts() {
            int[] c = {hour, vanes.size(), motions.size(), winds.size(), toCome(), 0, passed, 0, 0};
            for (int[] v : vanes) {
                c[5] += v[4];
                if (v[8] > 0) c[7]++;
                else if (windAt(v, entry(hour)) <= v[5]) c[8]++;
            }
            return c;
        }

        int[][] parties() {
            int[][] p = new int[2][4];
            for (int[] v : vanes) {
                p[0][tell(v)[9]]++;
                p[1][tell(v)[9]] += v[4];
            }
            return p;
        }

        long coalition() {
            int[] votes = parties()[1];
            int all = votes[0] + votes[1] + votes[2] + votes[3];
            for (int size = 1; size <= 4; size++) {
                int best = 0;
                int most = 0;
                for (int set = 0; set < 16; set++) {
                    int sum = 0;
                    int parts = 0;
                    for (int k = 0; k < 4; k++) {
                        if ((set & 1 << k) != 0) {
                            sum += votes[k];
                            parts++;
                        }
                    }
                    if (parts == size && sum > all - sum && sum > most) {
                        best = set;
                        most = sum;
                    }
                }
                if (best != 0) return best;
            }
            return 0;
        }

        long foresee(int vane, int hours) {
            index(vane, vanes.size());
            argument(hours, 0, 100);
            state(hour + hours <= 2000);
            Model m = copy();
            if (hours > 0) m.pass(hours);
            return m.vanes.get(vane)[6];
        }

        long passes(int motion, int hours, int most) {
            index(motion, motions.size());
            argument(hours, 1, most);
            state(hour + hours <= 2000);
            Model m = copy();
            for (int i = 0; i < hours; i++) {
                m.stepOne();
                if (m.wouldPass(motions.get(motion))) return m.hour;
                m.stepTwo();
                m.stepThree();
            }
            return -1;
        }

        long advise(int motion, int hours) {
            long best = -1;
            long earliest = passes(motion, hours, 50);
            for (int v = 0; v < vanes.size(); v++) {
                Model m = copy();
                m.oil(v);
                long with = m.passes(motion, hours, 50);
                if (with >= 0 && (earliest < 0 || with < earliest)) {
                    best = v;
                    earliest = with;
                }
            }
            return best;
        }

        double discord() {
            double sum = 0;
            for (int[] v : vanes) {
                sum += Math.abs(difference(v[6], entry(hour)[0]));
            }
            return vanes.isEmpty() ? 0 : sum / vanes.size();
        }

        long digest() {
            long d = 503;
            List<int[]> rows = new ArrayList<>();
            rows.add(counts());
            rows.addAll(winds);
            for (int[] v : vanes) rows.add(tell(v));
            for (int[] m : motions) rows.add(tellMotion(m));
            for (int[] e : agenda) {
                if (e[1] >= hour) rows.add(e);
            }
            for (int[] r : rows) {
                for (int x : r) d = d * 31 + x;
            }
            return d;
        }
    }
}
