import java.util.ArrayList;

/** A parliament of weather vanes: how the wind turns them, how they vote, and what would come of it. */
public final class VaneHouse {
    private static final int DIRECTIONS = 16;
    private static final int PLACES = 12;
    private static final int PARTIES = 4;
    private static final int LAST_HOUR = 2000;
    private static final int MOST_WINDS = 24;
    private static final int MOST_VANES = 16;
    private static final int MOST_MOTIONS = 12;
    private static final int MOST_TO_COME = 20;
    private static final int WIND_FACTS = 3;
    private static final int VANE_FACTS = 12;
    private static final int MOTION_FACTS = 9;
    private static final int COUNTS = 9;
    private static final int FOR = 1;
    private static final int AGAINST = -1;

    private final Wind firstWind = new Wind(0, 5, false);
    private final ArrayList<Wind> winds = new ArrayList<>();
    private final ArrayList<Motion> motions = new ArrayList<>();
    /** Only entries that are still to come; those of an hour go when it has gone by. */
    private final ArrayList<AgendaEntry> agenda = new ArrayList<>();
    private final Town town = new Town();
    /** The same vanes once more: what is only foreseen happens to these. */
    private final Town ahead = new Town();
    private int hour;
    private int passings;

    public VaneHouse() {
        winds.add(firstWind);
    }

    // ---- wind and vanes

    public int beginWind(int direction, int strength, boolean rains) throws IllegalArgumentException {
        if (!isDirection(direction) || !isWithin(strength, 0, 9)) {
            throw new IllegalArgumentException("no such wind");
        }
        int before = winds.size();
        winds.clear();
        winds.add(new Wind(direction, strength, rains));
        return before;
    }

    public int addWind(int direction, int strength, boolean rains)
            throws IllegalArgumentException, IllegalStateException {
        if (!isDirection(direction) || !isWithin(strength, 0, 9)) {
            throw new IllegalArgumentException("no such wind");
        }
        if (winds.size() >= MOST_WINDS) {
            throw new IllegalStateException("the table of winds is full");
        }
        winds.add(new Wind(direction, strength, rains));
        return winds.size();
    }

    public int wind(int hour, int what) throws IllegalArgumentException, IndexOutOfBoundsException {
        if (hour < 0) {
            throw new IllegalArgumentException("no such hour");
        }
        if (!isWithin(what, 0, WIND_FACTS - 1)) {
            throw new IndexOutOfBoundsException("a wind does not tell this");
        }
        return windAt(hour).tell(what);
    }

    public int setUp(int column, int row, int height, int weight, int votes, int direction)
            throws IllegalArgumentException, IllegalStateException {
        if (!isWithin(column, 0, PLACES - 1) || !isWithin(row, 0, PLACES - 1)) {
            throw new IllegalArgumentException("no such place");
        }
        if (!isWithin(height, 1, 9) || !isWithin(weight, 1, 9) || !isWithin(votes, 0, 9) || !isDirection(direction)) {
            throw new IllegalArgumentException("no such vane can be");
        }
        if (town.hasOneAt(column, row) || town.vanes.size() >= MOST_VANES) {
            throw new IllegalStateException("there is no room for it");
        }
        Mast mast = new Mast(column, row, height, weight);
        town.shelter(mast);
        town.vanes.add(new Vane(mast, votes, direction));
        ahead.vanes.add(new Vane(mast, votes, direction));
        return town.vanes.size() - 1;
    }

    public int oil(int vane) throws IndexOutOfBoundsException {
        if (!isVane(vane)) {
            throw new IndexOutOfBoundsException("no such vane");
        }
        Vane oiled = town.vanes.get(vane);
        int before = oiled.rust;
        oiled.takeOil();
        return before;
    }

    public int turn(int vane, int direction)
            throws IndexOutOfBoundsException, IllegalArgumentException, IllegalStateException {
        if (!isVane(vane)) {
            throw new IndexOutOfBoundsException("no such vane");
        }
        if (!isDirection(direction)) {
            throw new IllegalArgumentException("no such direction");
        }
        Vane turned = town.vanes.get(vane);
        if (turned.bound > 0) {
            throw new IllegalStateException("it is bound");
        }
        int before = turned.direction;
        turned.direction = direction;
        turned.spin = 0;
        return before;
    }

    public int vane(int vane, int what) throws IndexOutOfBoundsException {
        if (!isVane(vane)) {
            throw new IndexOutOfBoundsException("no such vane");
        }
        if (!isWithin(what, 0, VANE_FACTS - 1)) {
            throw new IndexOutOfBoundsException("a vane does not tell this");
        }
        return town.vanes.get(vane).tell(what, windAt(hour));
    }

    public int difference(int a, int b) throws IllegalArgumentException {
        if (!isDirection(a) || !isDirection(b)) {
            throw new IllegalArgumentException("no such direction");
        }
        return steps(a, b);
    }

    // ---- motions

    public int move(int direction, int spread, int quorum, int effect)
            throws IllegalArgumentException, IllegalStateException {
        if (!isDirection(direction) || !isWithin(spread, 0, 7) || !isWithin(quorum, 0, 99) || !isWithin(effect, 0, 3)) {
            throw new IllegalArgumentException("no such motion can be");
        }
        if (motions.size() >= MOST_MOTIONS) {
            throw new IllegalStateException("there are enough motions");
        }
        int number = motions.size();
        motions.add(new Motion(number, direction, spread, quorum, effect));
        return number;
    }

    public int put(int motion, int hour)
            throws IndexOutOfBoundsException, IllegalArgumentException, IllegalStateException {
        if (!isMotion(motion)) {
            throw new IndexOutOfBoundsException("no such motion");
        }
        if (!isWithin(hour, this.hour, LAST_HOUR)) {
            throw new IllegalArgumentException("this hour does not come");
        }
        if (agenda.size() >= MOST_TO_COME) {
            throw new IllegalStateException("the agenda is full");
        }
        agenda.add(new AgendaEntry(motions.get(motion), hour));
        return agenda.size();
    }

    public int motion(int motion, int what) throws IndexOutOfBoundsException {
        if (!isMotion(motion)) {
            throw new IndexOutOfBoundsException("no such motion");
        }
        if (!isWithin(what, 0, MOTION_FACTS - 1)) {
            throw new IndexOutOfBoundsException("a motion does not tell this");
        }
        return motions.get(motion).tell(what, town);
    }

    public int stand(int motion, int vane) throws IndexOutOfBoundsException {
        if (!isMotion(motion)) {
            throw new IndexOutOfBoundsException("no such motion");
        }
        if (!isVane(vane)) {
            throw new IndexOutOfBoundsException("no such vane");
        }
        return motions.get(motion).sideOf(town.vanes.get(vane));
    }

    // ---- hours

    public int pass(int hours) throws IllegalArgumentException, IllegalStateException {
        if (!isWithin(hours, 1, 100)) {
            throw new IllegalArgumentException("not so many hours at once");
        }
        if (hour + hours > LAST_HOUR) {
            throw new IllegalStateException("time ends before");
        }
        int passed = 0;
        for (int i = 0; i < hours; i++) {
            town.blowOnAll(windAt(hour));
            passed += voteAndRain(town, hour, true);
            hour++;
        }
        passings += passed;
        dropPastEntries();
        return passed;
    }

    public int count(int what) throws IndexOutOfBoundsException {
        if (!isWithin(what, 0, COUNTS - 1)) {
            throw new IndexOutOfBoundsException("this is not counted");
        }
        return tally(what);
    }

    public int party(int party, int what) throws IndexOutOfBoundsException {
        if (!isWithin(party, 0, PARTIES - 1)) {
            throw new IndexOutOfBoundsException("no such party");
        }
        if (!isWithin(what, 0, 1)) {
            throw new IndexOutOfBoundsException("a party does not tell this");
        }
        int alone = 1 << party;
        return what == 0 ? town.vanesOf(alone) : town.votesOf(alone);
    }

    public int coalition() {
        int allVotes = town.allVotes();
        int best = 0;
        int bestVotes = 0;
        for (int set = 1; set < 1 << PARTIES; set++) {
            int votes = town.votesOf(set);
            if (votes * 2 <= allVotes) {
                continue;
            }
            int more = Integer.bitCount(set) - Integer.bitCount(best);
            if (best == 0 || more < 0 || more == 0 && votes > bestVotes) {
                best = set;
                bestVotes = votes;
            }
        }
        return best;
    }

    // ---- looking ahead

    public int foresee(int vane, int hours)
            throws IndexOutOfBoundsException, IllegalArgumentException, IllegalStateException {
        if (!isVane(vane)) {
            throw new IndexOutOfBoundsException("no such vane");
        }
        if (!isWithin(hours, 0, 100)) {
            throw new IllegalArgumentException("not so many hours at once");
        }
        if (hour + hours > LAST_HOUR) {
            throw new IllegalStateException("time ends before");
        }
        ahead.copyAllFrom(town);
        for (int i = 0; i < hours; i++) {
            ahead.blowOnAll(windAt(hour + i));
            voteAndRain(ahead, hour + i, false);
        }
        return ahead.directionOf(vane);
    }

    public int passes(int motion, int hours)
            throws IndexOutOfBoundsException, IllegalArgumentException, IllegalStateException {
        if (!isMotion(motion)) {
            throw new IndexOutOfBoundsException("no such motion");
        }
        if (!isWithin(hours, 1, 100)) {
            throw new IllegalArgumentException("not so many hours at once");
        }
        if (hour + hours > LAST_HOUR) {
            throw new IllegalStateException("time ends before");
        }
        ahead.copyAllFrom(town);
        int waiting = hoursUntilItPasses(motions.get(motion), hours);
        return waiting < hours ? hour + waiting : -1;
    }

    public int advise(int motion, int hours)
            throws IndexOutOfBoundsException, IllegalArgumentException, IllegalStateException {
        if (!isMotion(motion)) {
            throw new IndexOutOfBoundsException("no such motion");
        }
        if (!isWithin(hours, 1, 50)) {
            throw new IllegalArgumentException("not so many hours at once");
        }
        if (hour + hours > LAST_HOUR) {
            throw new IllegalStateException("time ends before");
        }
        ahead.copyAllFrom(town);
        int shortest = hoursUntilItPasses(motions.get(motion), hours);
        int best = -1;
        for (int i = 0; i < ahead.vanes.size(); i++) {
            ahead.copyAllFrom(town);
            ahead.vanes.get(i).takeOil();
            int waiting = hoursUntilItPasses(motions.get(motion), shortest);
            if (waiting < shortest) {
                shortest = waiting;
                best = i;
            }
        }
        return best;
    }

    public double discord() {
        int vanes = town.vanes.size();
        if (vanes == 0) {
            return 0;
        }
        int sum = 0;
        for (int i = 0; i < vanes; i++) {
            sum += distance(town.vanes.get(i).direction, windAt(hour).direction);
        }
        return (double) sum / vanes;
    }

    public long digest() {
        long d = 503;
        for (int what = 0; what < COUNTS; what++) {
            d = d * 31 + tally(what);
        }
        d = digestWinds(d);
        d = digestVanes(d);
        d = digestMotions(d);
        for (int i = 0; i < agenda.size(); i++) {
            d = d * 31 + agenda.get(i).motion.number;
            d = d * 31 + agenda.get(i).hour;
        }
        return d;
    }

    // ---- how it is done

    private long digestWinds(long before) {
        long d = before;
        for (int i = 0; i < winds.size(); i++) {
            for (int what = 0; what < WIND_FACTS; what++) {
                d = d * 31 + winds.get(i).tell(what);
            }
        }
        return d;
    }

    private long digestVanes(long before) {
        long d = before;
        for (int i = 0; i < town.vanes.size(); i++) {
            for (int what = 0; what < VANE_FACTS; what++) {
                d = d * 31 + town.vanes.get(i).tell(what, windAt(hour));
            }
        }
        return d;
    }

    private long digestMotions(long before) {
        long d = before;
        for (int i = 0; i < motions.size(); i++) {
            for (int what = 0; what < MOTION_FACTS; what++) {
                d = d * 31 + motions.get(i).tell(what, town);
            }
        }
        return d;
    }

    private int tally(int what) {
        switch (what) {
            case 0: return hour;
            case 1: return town.vanes.size();
            case 2: return motions.size();
            case 3: return winds.size();
            case 4: return agenda.size();
            case 5: return town.allVotes();
            case 6: return passings;
            case 7: return town.boundVanes();
            default: return town.stuckVanes(windAt(hour));
        }
    }

    /** The table is never empty: the tests are there so that no machine can throw here, whatever comes. */
    private Wind windAt(int when) {
        int entries = winds.size();
        if (entries < 1 || when < 0) {
            return firstWind;
        }
        return winds.get(when % entries);
    }

    /** Steps 2 and 3 of an hour; answers how many motions passed. What is only foreseen is not recorded. */
    private int voteAndRain(Town there, int when, boolean recorded) {
        int passed = 0;
        for (int i = 0; i < agenda.size(); i++) {
            AgendaEntry entry = agenda.get(i);
            if (entry.hour != when) {
                continue;
            }
            boolean carried = there.carries(entry.motion);
            if (carried) {
                there.giveEffect(entry.motion);
                passed++;
            }
            if (recorded) {
                entry.motion.noteVoting(carried);
            }
        }
        if (windAt(when).rains) {
            there.rainOnAll();
        }
        return passed;
    }

    /** Looks ahead of the town as it is made ready there; answers as many hours as it may look if none is it. */
    private int hoursUntilItPasses(Motion motion, int hours) {
        for (int i = 0; i < hours; i++) {
            ahead.blowOnAll(windAt(hour + i));
            if (ahead.carries(motion)) {
                return i;
            }
            voteAndRain(ahead, hour + i, false);
        }
        return hours;
    }

    private void dropPastEntries() {
        for (int i = agenda.size() - 1; i >= 0; i--) {
            if (agenda.get(i).hour < hour) {
                agenda.remove(i);
            }
        }
    }

    private boolean isVane(int number) {
        return number >= 0 && number < town.vanes.size();
    }

    private boolean isMotion(int number) {
        return number >= 0 && number < motions.size();
    }

    private static boolean isDirection(int number) {
        return number >= 0 && number < DIRECTIONS;
    }

    private static boolean isWithin(int number, int least, int most) {
        return number >= least && number <= most;
    }

    /** From one direction to another: clockwise more than 0, and half round is 8, not -8. */
    private static int steps(int from, int to) {
        return (to - from + 7 + DIRECTIONS) % DIRECTIONS - 7;
    }

    private static int distance(int from, int to) {
        return Math.abs(steps(from, to));
    }

    /** An entry of the table of winds. */
    private static final class Wind {
        private final int direction;
        private final int strength;
        private final boolean rains;
        /** Where it comes from: opposite to where it turns the vanes. */
        private final int eighth;

        Wind(int direction, int strength, boolean rains) {
            this.direction = direction;
            this.strength = strength;
            this.rains = rains;
            int source = (direction + 8) % DIRECTIONS;
            eighth = (source + 1) / 2 % 8;
        }

        int tell(int what) {
            switch (what) {
                case 0: return direction;
                case 1: return strength;
                default: return rains ? 1 : 0;
            }
        }
    }

    /** What of a vane never changes. */
    private static final class Mast {
        private static final int LEE_REACH = 3;
        private static final int[] COLUMN_STEPS = {0, 1, 1, 1, 0, -1, -1, -1};
        private static final int[] ROW_STEPS = {-1, -1, 0, 1, 1, 1, 0, -1};

        private final int column;
        private final int row;
        private final int height;
        private final int weight;
        /** For each eighth how many higher ones stand near in it: they are counted once, not in each hour. */
        private final int[] higherOnes = new int[8];

        Mast(int column, int row, int height, int weight) {
            this.column = column;
            this.row = row;
            this.height = height;
            this.weight = weight;
        }

        void lookAt(Mast other) {
            if (other.height <= height) {
                return;
            }
            for (int eighth = 0; eighth < higherOnes.length; eighth++) {
                if (isInLine(other, eighth)) {
                    higherOnes[eighth]++;
                }
            }
        }

        private boolean isInLine(Mast other, int eighth) {
            if (eighth < 0 || eighth >= COLUMN_STEPS.length || eighth >= ROW_STEPS.length) {
                return false;
            }
            for (int places = 1; places <= LEE_REACH; places++) {
                if (other.column == column + places * COLUMN_STEPS[eighth]
                        && other.row == row + places * ROW_STEPS[eighth]) {
                    return true;
                }
            }
            return false;
        }

        int leeOf(Wind wind) {
            int eighth = wind.eighth;
            return eighth >= 0 && eighth < higherOnes.length ? higherOnes[eighth] : 0;
        }
    }

    private static final class Vane {
        private final Mast mast;
        private int votes;
        private int rust;
        private int direction;
        private int spin;
        private int bound;
        private int rainyHours;

        Vane(Mast mast, int votes, int direction) {
            this.mast = mast;
            this.votes = votes;
            this.direction = direction;
        }

        void copyFrom(Vane other) {
            votes = other.votes;
            rust = other.rust;
            direction = other.direction;
            spin = other.spin;
            bound = other.bound;
            rainyHours = other.rainyHours;
        }

        int tell(int what, Wind wind) {
            switch (what) {
                case 0: return mast.column;
                case 1: return mast.row;
                case 2: return mast.height;
                case 3: return mast.weight;
                case 4: return votes;
                case 5: return rust;
                case 6: return direction;
                case 7: return spin;
                case 8: return bound;
                case 9: return partyNumber();
                case 10: return windHere(wind);
                default: return mast.leeOf(wind);
            }
        }

        int partyNumber() {
            return (direction + 2) / 4 % PARTIES;
        }

        int windHere(Wind wind) {
            return Math.max(0, wind.strength - 2 * mast.leeOf(wind));
        }

        boolean isStuck(Wind wind) {
            return windHere(wind) <= rust;
        }

        void blow(Wind wind) {
            if (bound > 0) {
                bound--;
                spin = 0;
            } else if (isStuck(wind)) {
                spin = 0;
            } else {
                spin = nextSpin(wind);
                direction = Math.floorMod(direction + spin, DIRECTIONS);
            }
        }

        private int nextSpin(Wind wind) {
            int pull = steps(direction, wind.direction);
            int push = spin * mast.weight + pull * windHere(wind);
            int drag = mast.weight + 4 + rust;
            int next = drag > 0 ? push / drag : 0;
            if (next == 0) {
                return Integer.signum(pull);
            }
            return Math.max(-8, Math.min(8, next));
        }

        void takeOil() {
            rust = 0;
            rainyHours = 0;
        }

        void takeRain() {
            rainyHours++;
            if (rainyHours % 2 == 1) {
                rust = Math.min(9, rust + 1);
            }
        }

        void takeEffect(int effect, int side) {
            if (effect == 1 && side == FOR) {
                takeOil();
            } else if (effect == 2 && side == AGAINST) {
                bound = Math.max(bound, 4);
            } else if (effect == 3) {
                votes = Math.max(0, Math.min(9, votes + side));
            }
        }
    }

    private static final class Motion {
        private final int number;
        private final int direction;
        private final int spread;
        private final int quorum;
        private final int effect;
        private int votings;
        private int passings;

        Motion(int number, int direction, int spread, int quorum, int effect) {
            this.number = number;
            this.direction = direction;
            this.spread = spread;
            this.quorum = quorum;
            this.effect = effect;
        }

        int tell(int what, Town town) {
            switch (what) {
                case 0: return direction;
                case 1: return spread;
                case 2: return quorum;
                case 3: return effect;
                case 4: return town.votesOnSide(this, FOR);
                case 5: return town.votesOnSide(this, AGAINST);
                case 6: return town.carries(this) ? 1 : 0;
                case 7: return votings;
                default: return passings;
            }
        }

        int sideOf(Vane vane) {
            int apart = distance(vane.direction, direction);
            if (apart <= spread) {
                return FOR;
            }
            return apart >= 8 - spread / 2 ? AGAINST : 0;
        }

        void noteVoting(boolean carried) {
            votings++;
            if (carried) {
                passings++;
            }
        }
    }

    /** A motion that is put for an hour. */
    private static final class AgendaEntry {
        private final Motion motion;
        private final int hour;

        AgendaEntry(Motion motion, int hour) {
            this.motion = motion;
            this.hour = hour;
        }
    }

    /** All vanes, and what befalls them together. */
    private static final class Town {
        private final ArrayList<Vane> vanes = new ArrayList<>();

        void copyAllFrom(Town other) {
            for (int i = 0; i < vanes.size() && i < other.vanes.size(); i++) {
                vanes.get(i).copyFrom(other.vanes.get(i));
            }
        }

        boolean hasOneAt(int column, int row) {
            for (int i = 0; i < vanes.size(); i++) {
                Mast mast = vanes.get(i).mast;
                if (mast.column == column && mast.row == row) {
                    return true;
                }
            }
            return false;
        }

        /** A new one may stand in the lee of the others, and they in its. */
        void shelter(Mast fresh) {
            for (int i = 0; i < vanes.size(); i++) {
                fresh.lookAt(vanes.get(i).mast);
                vanes.get(i).mast.lookAt(fresh);
            }
        }

        int directionOf(int number) {
            return number >= 0 && number < vanes.size() ? vanes.get(number).direction : 0;
        }

        void blowOnAll(Wind wind) {
            for (int i = 0; i < vanes.size(); i++) {
                vanes.get(i).blow(wind);
            }
        }

        void rainOnAll() {
            for (int i = 0; i < vanes.size(); i++) {
                vanes.get(i).takeRain();
            }
        }

        void giveEffect(Motion motion) {
            for (int i = 0; i < vanes.size(); i++) {
                vanes.get(i).takeEffect(motion.effect, motion.sideOf(vanes.get(i)));
            }
        }

        boolean carries(Motion motion) {
            int cast = 0;
            int lead = 0;
            for (int i = 0; i < vanes.size(); i++) {
                int side = motion.sideOf(vanes.get(i));
                cast += vanes.get(i).votes * Math.abs(side);
                lead += vanes.get(i).votes * side;
            }
            return cast >= motion.quorum && lead > 0;
        }

        int votesOnSide(Motion motion, int side) {
            int votes = 0;
            for (int i = 0; i < vanes.size(); i++) {
                if (motion.sideOf(vanes.get(i)) == side) {
                    votes += vanes.get(i).votes;
                }
            }
            return votes;
        }

        int allVotes() {
            return votesOf((1 << PARTIES) - 1);
        }

        /** Of a set of parties, which is the sum of the powers 2^k of their numbers k. */
        int votesOf(int set) {
            int votes = 0;
            for (int i = 0; i < vanes.size(); i++) {
                if ((set >> vanes.get(i).partyNumber() & 1) == 1) {
                    votes += vanes.get(i).votes;
                }
            }
            return votes;
        }

        int vanesOf(int set) {
            int number = 0;
            for (int i = 0; i < vanes.size(); i++) {
                number += set >> vanes.get(i).partyNumber() & 1;
            }
            return number;
        }

        int boundVanes() {
            int number = 0;
            for (int i = 0; i < vanes.size(); i++) {
                if (vanes.get(i).bound > 0) {
                    number++;
                }
            }
            return number;
        }

        int stuckVanes(Wind wind) {
            int number = 0;
            for (int i = 0; i < vanes.size(); i++) {
                if (vanes.get(i).bound == 0 && vanes.get(i).isStuck(wind)) {
                    number++;
                }
            }
            return number;
        }
    }
}
