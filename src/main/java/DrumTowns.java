public final class DrumTowns {
    public static final int NONE = -1;

    private static final int MOST_TOWNS = 6;
    private static final int STEPS = 24;
    private static final int TEETH = 12;
    private static final int MOST_GIVEN = 200;
    private static final int MOST_SAVED = 6;
    private static final int MOST_CODES = 60;
    private static final int FIRST_CODE = 33;
    private static final int LAST_CODE = 126;
    private static final int MOST_PLAYINGS = 200;
    private static final int MOST_DEBTS = 30;

    private static final int SETTINGS = 3;
    private static final int REST = 0;
    private static final int DULL_FROM = 1;
    private static final int BOX_LIMIT = 2;
    private static final int[] FIRST_VALUES = {2, 10, 200};
    private static final int[] LEAST_VALUES = {0, 1, 1};
    private static final int[] GREATEST_VALUES = {24, 100, 999};

    private static final int COUNTS = 11;
    private static final int PROPERTIES = 12;
    private static final int FORECASTS = 5;
    private static final int FIRST_PLACE = 10;

    private static final long HASH_START = 2357L;
    private static final int ONE_EXPONENT = 1023;
    private static final int FRACTION_BITS = 52;

    private final Land land;
    private final Land[] saved;
    private int savedCount;
    private final TuneText text;
    private final Playing playing;
    private final Ring ring;
    private final Trades trades;
    private final int[] turned;

    public DrumTowns() {
        land = new Land();
        saved = new Land[MOST_SAVED];
        for (int i = 0; i < MOST_SAVED; i++) {
            saved[i] = new Land();
        }
        text = new TuneText();
        playing = new Playing();
        ring = new Ring();
        trades = new Trades();
        turned = new int[STEPS];
    }

    // ---- towns, drums, combs

    public int addTown(int pins) throws IllegalArgumentException, IllegalStateException {
        if (pins < 0 || pins > MOST_GIVEN) {
            throw new IllegalArgumentException("pins is out of range");
        }
        if (land.townCount >= MOST_TOWNS) {
            throw new IllegalStateException("there are 6 towns");
        }
        if (pins > land.settings[BOX_LIMIT]) {
            throw new IllegalStateException("the box cannot hold so many pins");
        }
        saveState();
        int added = land.townCount;
        // A town beyond the count is as new: nothing but the pins is to be put in.
        land.towns[added].box = pins;
        land.townCount = added + 1;
        return added;
    }

    public int set(int setting, int value) throws IndexOutOfBoundsException, IllegalArgumentException {
        checkSetting(setting);
        if (value < LEAST_VALUES[setting] || value > GREATEST_VALUES[setting]) {
            throw new IllegalArgumentException("value is out of range");
        }
        saveState();
        int previous = land.settings[setting];
        land.settings[setting] = value;
        return previous;
    }

    public int put(int town, int step, int tooth) throws IndexOutOfBoundsException, IllegalStateException {
        checkPlace(town, step, tooth);
        Town at = land.towns[town];
        if (at.hasPin(step, tooth)) {
            throw new IllegalStateException("there is a pin");
        }
        if (at.box == 0) {
            throw new IllegalStateException("the box is empty");
        }
        saveState();
        at.box--;
        at.drum[step] |= 1 << tooth;
        return sizeOf(at.drum);
    }

    public int pull(int town, int step, int tooth) throws IndexOutOfBoundsException, IllegalStateException {
        checkPlace(town, step, tooth);
        Town at = land.towns[town];
        if (!at.hasPin(step, tooth)) {
            throw new IllegalStateException("there is no pin");
        }
        if (at.box >= land.settings[BOX_LIMIT]) {
            throw new IllegalStateException("the box is full");
        }
        saveState();
        at.drum[step] &= ~(1 << tooth);
        at.box++;
        return at.box;
    }

    public int move(int from, int to, int step, int tooth)
            throws IndexOutOfBoundsException, IllegalArgumentException, IllegalStateException {
        checkPlace(from, step, tooth);
        checkTown(to);
        checkDifferent(from, to);
        Town giver = land.towns[from];
        Town taker = land.towns[to];
        if (!giver.hasPin(step, tooth)) {
            throw new IllegalStateException("there is no pin");
        }
        if (taker.hasPin(step, tooth)) {
            throw new IllegalStateException("there is a pin in the other drum");
        }
        saveState();
        giver.drum[step] &= ~(1 << tooth);
        taker.drum[step] |= 1 << tooth;
        return sizeOf(taker.drum);
    }

    public int trade(int one, int other) throws IndexOutOfBoundsException, IllegalArgumentException {
        checkTown(one);
        checkTown(other);
        checkDifferent(one, other);
        saveState();
        Town first = land.towns[one];
        Town second = land.towns[other];
        for (int i = 0; i < STEPS; i++) {
            int pins = first.drum[i];
            first.drum[i] = second.drum[i];
            second.drum[i] = pins;
        }
        return first.rightPins() + second.rightPins();
    }

    public int turn(int town, int by) throws IndexOutOfBoundsException, IllegalArgumentException {
        checkTown(town);
        if (by < 0 || by >= STEPS) {
            throw new IllegalArgumentException("by is out of range");
        }
        saveState();
        Town at = land.towns[town];
        for (int i = 0; i < STEPS; i++) {
            turned[(i + by) % STEPS] = at.drum[i];
        }
        copyRow(turned, at.drum);
        return at.rightPins();
    }

    public int file(int town, int tooth) throws IndexOutOfBoundsException {
        checkTown(town);
        checkTooth(tooth);
        saveState();
        int had = land.towns[town].wear[tooth];
        land.towns[town].wear[tooth] = 0;
        return had;
    }

    public int play(int town) throws IndexOutOfBoundsException {
        checkTown(town);
        saveState();
        foresee(town);
        land.towns[town].takeOver(playing);
        return playing.sounds;
    }

    // ---- debts

    public int lend(int from, int to, int pins)
            throws IndexOutOfBoundsException, IllegalArgumentException, IllegalStateException {
        checkTown(from);
        checkTown(to);
        checkDifferent(from, to);
        checkGiven(pins);
        checkBoxes(from, to, pins);
        saveState();
        land.carry(from, to, pins);
        land.debts[to][from] += pins;
        land.lent += pins;
        return land.debts[to][from];
    }

    public int repay(int from, int to, int pins)
            throws IndexOutOfBoundsException, IllegalArgumentException, IllegalStateException {
        checkTown(from);
        checkTown(to);
        checkDifferent(from, to);
        checkGiven(pins);
        if (land.debts[from][to] < pins) {
            throw new IllegalStateException("it owes fewer pins");
        }
        checkBoxes(from, to, pins);
        saveState();
        land.carry(from, to, pins);
        land.debts[from][to] -= pins;
        land.repaid += pins;
        return land.debts[from][to];
    }

    public int settle() {
        saveState();
        int taken = 0;
        ring.find(land);
        // Each ring that is taken ends one debt at least.
        while (ring.length > 0 && taken < MOST_DEBTS) {
            land.takeRing(ring);
            taken++;
            ring.find(land);
        }
        return taken;
    }

    // ---- texts

    public int append(int code) throws IllegalArgumentException, IllegalStateException {
        if (code < FIRST_CODE || code > LAST_CODE) {
            throw new IllegalArgumentException("code is not 33 to 126");
        }
        if (text.length >= MOST_CODES) {
            throw new IllegalStateException("the buffer is full");
        }
        text.codes[text.length] = code;
        text.length++;
        return text.length;
    }

    public int clearBuffer() {
        int had = text.length;
        text.length = 0;
        return had;
    }

    public int firstError() {
        return text.readAll();
    }

    public int learn(int town) throws IndexOutOfBoundsException, IllegalArgumentException {
        checkTown(town);
        if (text.readAll() < text.length || !text.isComplete()) {
            throw new IllegalArgumentException("the buffer is not a complete tune");
        }
        saveState();
        Town at = land.towns[town];
        copyRow(text.tune, at.tune);
        text.length = 0;
        return sizeOf(at.tune);
    }

    public int undo() throws IllegalStateException {
        if (savedCount <= 0) {
            throw new IllegalStateException("there is no saved state");
        }
        savedCount--;
        land.takeFrom(saved[savedCount]);
        return savedCount;
    }

    // ---- what there is

    public int town(int town, int what) throws IndexOutOfBoundsException, IllegalArgumentException {
        checkTown(town);
        Town at = land.towns[town];
        switch (what) {
            case 0: return at.box;
            case 1: return sizeOf(at.drum);
            case 2: return sizeOf(at.tune);
            case 3: return at.rightPins();
            case 4: return sizeOf(at.drum) - at.rightPins();
            case 5: return sizeOf(at.tune) - at.rightPins();
            case 6: return land.owedBy(town);
            case 7: return land.owedTo(town);
            case 8: return at.playings;
            case 9: return at.sounds;
            case 10: return at.fallen;
            case 11: return dullTeeth(at.wear, land.settings[DULL_FROM]);
            default: throw new IllegalArgumentException("what is not 0 to 11");
        }
    }

    public int step(int town, int step, int what) throws IndexOutOfBoundsException, IllegalArgumentException {
        checkTown(town);
        checkStep(step);
        switch (what) {
            case 0: return land.towns[town].drum[step];
            case 1: return land.towns[town].tune[step];
            case 2:
                foresee(town);
                return playing.sounding[step];
            default: throw new IllegalArgumentException("what is not 0 to 2");
        }
    }

    public int wear(int town, int tooth) throws IndexOutOfBoundsException {
        checkTown(town);
        checkTooth(tooth);
        return land.towns[town].wear[tooth];
    }

    public int debt(int from, int to) throws IndexOutOfBoundsException {
        checkTown(from);
        checkTown(to);
        return land.debts[from][to];
    }

    public int count(int what) throws IllegalArgumentException {
        switch (what) {
            case 0: return land.townCount;
            case 1: return land.pinsInBoxes() + land.pinsInDrums();
            case 2: return land.pinsInBoxes();
            case 3: return land.allDebts();
            case 4: return land.owingPairs();
            case 5: return land.lent;
            case 6: return land.repaid;
            case 7: return land.ringsTaken;
            case 8: return land.settled;
            case 9: return land.allRightPins();
            case 10: return savedCount;
            default: throw new IllegalArgumentException("what is not 0 to 10");
        }
    }

    public int setting(int setting) throws IndexOutOfBoundsException {
        checkSetting(setting);
        return land.settings[setting];
    }

    // ---- what would be; nothing is changed

    public int ifPlayed(int town, int what) throws IndexOutOfBoundsException, IllegalArgumentException {
        checkTown(town);
        if (what < 0 || what >= FORECASTS) {
            throw new IllegalArgumentException("what is not 0 to 4");
        }
        foresee(town);
        return playing.tell(what);
    }

    public int lastsFor(int town) throws IndexOutOfBoundsException {
        checkTown(town);
        Town at = land.towns[town];
        playing.begin(at, land.settings);
        for (int n = 1; n <= MOST_PLAYINGS; n++) {
            playing.goThrough(at.tune);
            if (playing.rightFallen > 0) {
                return n;
            }
            // In a playing without a sound every pin falls out, so nothing is left for later ones.
            if (playing.sounds == 0) {
                return NONE;
            }
        }
        return NONE;
    }

    public int bestTurn(int town, int what) throws IndexOutOfBoundsException, IllegalArgumentException {
        checkTown(town);
        if (what != 0 && what != 1) {
            throw new IllegalArgumentException("what is not 0 or 1");
        }
        int best = 0;
        int most = land.towns[town].rightPins();
        for (int by = 1; by < STEPS; by++) {
            int right = land.towns[town].rightIfTurned(by);
            if (right > most) {
                best = by;
                most = right;
            }
        }
        return what == 0 ? best : most;
    }

    public int bestDrum(int town) throws IndexOutOfBoundsException {
        checkTown(town);
        int best = NONE;
        int most = -1;
        for (int other = 0; other < land.townCount; other++) {
            int right = sharedBy(land.towns[other].drum, land.towns[town].tune);
            if (other != town && right > most) {
                best = other;
                most = right;
            }
        }
        return best;
    }

    public int bestTrades(int what) throws IllegalArgumentException {
        if (what != 0 && !isPlace(what)) {
            throw new IllegalArgumentException("what is not 0 or 10 to 15");
        }
        trades.find(land);
        return trades.tell(what);
    }

    public int ring(int what) throws IllegalArgumentException {
        if (what != 0 && what != 1 && !isPlace(what)) {
            throw new IllegalArgumentException("what is not 0, 1, or 10 to 15");
        }
        ring.find(land);
        return ring.tell(what);
    }

    public double tuneShare() {
        int needed = 0;
        for (int i = 0; i < land.townCount; i++) {
            needed += sizeOf(land.towns[i].tune);
        }
        if (needed == 0) {
            return 0.0;
        }
        return (double) land.allRightPins() / (double) needed;
    }

    public long digest() {
        long hash = HASH_START;
        for (int what = 0; what < COUNTS; what++) {
            hash = mixed(hash, count(what));
        }
        for (int i = 0; i < SETTINGS; i++) {
            hash = mixed(hash, land.settings[i]);
        }
        for (int i = 0; i < land.townCount; i++) {
            hash = mixedWithTown(hash, i);
            hash = mixedWithRows(hash, i);
        }
        hash = mixedWithTrades(hash);
        hash = mixedWithRing(hash);
        hash = mixed(hash, bitsOf(tuneShare()));
        hash = mixed(hash, text.length);
        for (int i = 0; i < text.length && i < MOST_CODES; i++) {
            hash = mixed(hash, text.codes[i]);
        }
        return hash;
    }

    // ---- parts of the digest

    private static long mixed(long hash, long value) {
        return 31L * hash + value;
    }

    private long mixedWithTown(long start, int town) {
        long hash = start;
        for (int what = 0; what < PROPERTIES; what++) {
            hash = mixed(hash, town(town, what));
        }
        foresee(town);
        for (int what = 0; what < FORECASTS; what++) {
            hash = mixed(hash, playing.tell(what));
        }
        hash = mixed(hash, lastsFor(town));
        hash = mixed(hash, bestTurn(town, 0));
        hash = mixed(hash, bestTurn(town, 1));
        return mixed(hash, bestDrum(town));
    }

    private long mixedWithRows(long start, int town) {
        long hash = start;
        Town at = land.towns[town];
        for (int i = 0; i < TEETH; i++) {
            hash = mixed(hash, at.wear[i]);
        }
        for (int i = 0; i < land.townCount; i++) {
            hash = mixed(hash, land.debts[town][i]);
        }
        foresee(town);
        for (int i = 0; i < STEPS; i++) {
            hash = mixed(hash, at.drum[i]);
            hash = mixed(hash, at.tune[i]);
            hash = mixed(hash, playing.sounding[i]);
        }
        return hash;
    }

    private long mixedWithTrades(long start) {
        trades.find(land);
        long hash = mixed(start, trades.tell(0));
        for (int i = 0; i < MOST_TOWNS; i++) {
            hash = mixed(hash, trades.tell(FIRST_PLACE + i));
        }
        return hash;
    }

    private long mixedWithRing(long start) {
        ring.find(land);
        long hash = mixed(start, ring.tell(0));
        hash = mixed(hash, ring.tell(1));
        for (int i = 0; i < MOST_TOWNS; i++) {
            hash = mixed(hash, ring.tell(FIRST_PLACE + i));
        }
        return hash;
    }

    // LANGUAGE.md's rule 4 leaves Double.doubleToLongBits out. A share is 0, or from 1/1728 to 1,
    // so doubling it until it is 1 or more is exact, and so is its fraction in 52 bits.
    private static long bitsOf(double share) {
        if (share <= 0.0) {
            return 0L;
        }
        double scaled = share;
        long exponent = ONE_EXPONENT;
        for (int n = 0; n < ONE_EXPONENT && scaled < 1.0; n++) {
            scaled = scaled * 2.0;
            exponent--;
        }
        double fraction = (scaled - 1.0) * (double) (1L << FRACTION_BITS);
        return (exponent << FRACTION_BITS) + (long) fraction;
    }

    // ---- tests of arguments

    private void checkTown(int town) {
        if (town < 0 || town >= land.townCount) {
            throw new IndexOutOfBoundsException("there is no such town");
        }
    }

    private static void checkStep(int step) {
        if (step < 0 || step >= STEPS) {
            throw new IndexOutOfBoundsException("there is no such step");
        }
    }

    private static void checkTooth(int tooth) {
        if (tooth < 0 || tooth >= TEETH) {
            throw new IndexOutOfBoundsException("there is no such tooth");
        }
    }

    private void checkPlace(int town, int step, int tooth) {
        checkTown(town);
        checkStep(step);
        checkTooth(tooth);
    }

    private static void checkSetting(int setting) {
        if (setting < 0 || setting >= SETTINGS) {
            throw new IndexOutOfBoundsException("there is no such setting");
        }
    }

    private static void checkDifferent(int one, int other) {
        if (one == other) {
            throw new IllegalArgumentException("both towns are the same");
        }
    }

    private static void checkGiven(int pins) {
        if (pins < 1 || pins > MOST_GIVEN) {
            throw new IllegalArgumentException("pins is out of range");
        }
    }

    private void checkBoxes(int from, int to, int pins) {
        if (land.towns[from].box < pins) {
            throw new IllegalStateException("the box has fewer pins");
        }
        if (land.towns[to].box + pins > land.settings[BOX_LIMIT]) {
            throw new IllegalStateException("the other box cannot hold so many pins");
        }
    }

    private static boolean isPlace(int what) {
        return what >= FIRST_PLACE && what < FIRST_PLACE + MOST_TOWNS;
    }

    // ---- saved states, playing, rows of bit masks

    private void saveState() {
        if (savedCount >= MOST_SAVED) {
            dropOldest();
        }
        saved[savedCount].takeFrom(land);
        savedCount++;
    }

    // The dropped one goes behind the others, to be written over next: so no state is made anew.
    private void dropOldest() {
        Land oldest = saved[0];
        for (int i = 1; i < MOST_SAVED; i++) {
            saved[i - 1] = saved[i];
        }
        saved[MOST_SAVED - 1] = oldest;
        savedCount = MOST_SAVED - 1;
    }

    private void foresee(int town) {
        Town at = land.towns[town];
        playing.begin(at, land.settings);
        playing.goThrough(at.tune);
    }

    private static void copyRow(int[] from, int[] to) {
        System.arraycopy(from, 0, to, 0, Math.min(from.length, to.length));
    }

    private static int sizeOf(int[] masks) {
        int size = 0;
        for (int mask : masks) {
            size += Integer.bitCount(mask);
        }
        return size;
    }

    private static int sharedBy(int[] drum, int[] tune) {
        int shared = 0;
        for (int i = 0; i < STEPS; i++) {
            shared += Integer.bitCount(drum[i] & tune[i]);
        }
        return shared;
    }

    private static int dullTeeth(int[] wear, int dullFrom) {
        int dull = 0;
        for (int worn : wear) {
            if (worn >= dullFrom) {
                dull++;
            }
        }
        return dull;
    }

    /** A drum and a tune hold a bit mask of teeth for each step. */
    private static final class Town {
        private int box;
        private final int[] drum = new int[STEPS];
        private final int[] tune = new int[STEPS];
        private final int[] wear = new int[TEETH];
        private int playings;
        private int sounds;
        private int fallen;

        private boolean hasPin(int step, int tooth) {
            return (drum[step] & 1 << tooth) != 0;
        }

        private int rightPins() {
            return sharedBy(drum, tune);
        }

        private int rightIfTurned(int by) {
            int right = 0;
            for (int i = 0; i < STEPS; i++) {
                right += Integer.bitCount(drum[i] & tune[(i + by) % STEPS]);
            }
            return right;
        }

        private void takeOver(Playing played) {
            copyRow(played.drum, drum);
            copyRow(played.wear, wear);
            box += played.fallen;
            playings++;
            sounds += played.sounds;
            fallen += played.fallen;
        }

        private void takeFrom(Town other) {
            box = other.box;
            copyRow(other.drum, drum);
            copyRow(other.tune, tune);
            copyRow(other.wear, wear);
            playings = other.playings;
            sounds = other.sounds;
            fallen = other.fallen;
        }
    }

    /** All that undo brings back. In debts, the row owes and the column is owed. */
    private static final class Land {
        private final Town[] towns = new Town[MOST_TOWNS];
        private int townCount;
        private final int[] settings = new int[SETTINGS];
        private final int[][] debts = new int[MOST_TOWNS][MOST_TOWNS];
        private int lent;
        private int repaid;
        private int ringsTaken;
        private int settled;

        private Land() {
            for (int i = 0; i < MOST_TOWNS; i++) {
                towns[i] = new Town();
            }
            for (int i = 0; i < SETTINGS; i++) {
                settings[i] = FIRST_VALUES[i];
            }
        }

        // The towns beyond the count are copied too, so that an undone addTown leaves them as new.
        private void takeFrom(Land other) {
            for (int i = 0; i < MOST_TOWNS; i++) {
                towns[i].takeFrom(other.towns[i]);
                copyRow(other.debts[i], debts[i]);
            }
            townCount = other.townCount;
            copyRow(other.settings, settings);
            lent = other.lent;
            repaid = other.repaid;
            ringsTaken = other.ringsTaken;
            settled = other.settled;
        }

        private void carry(int from, int to, int pins) {
            towns[from].box -= pins;
            towns[to].box += pins;
        }

        private void takeRing(Ring taken) {
            for (int i = 0; i < taken.length; i++) {
                debts[taken.row[i]][taken.following(i)] -= taken.least;
            }
            ringsTaken++;
            settled += taken.least * taken.length;
        }

        private int owedBy(int town) {
            int owed = 0;
            for (int i = 0; i < townCount; i++) {
                owed += debts[town][i];
            }
            return owed;
        }

        private int owedTo(int town) {
            int owed = 0;
            for (int i = 0; i < townCount; i++) {
                owed += debts[i][town];
            }
            return owed;
        }

        private int allDebts() {
            int owed = 0;
            for (int i = 0; i < townCount; i++) {
                owed += owedBy(i);
            }
            return owed;
        }

        private int owingPairs() {
            int pairs = 0;
            for (int i = 0; i < townCount; i++) {
                for (int j = 0; j < townCount; j++) {
                    pairs += debts[i][j] > 0 ? 1 : 0;
                }
            }
            return pairs;
        }

        private int pinsInBoxes() {
            int pins = 0;
            for (int i = 0; i < townCount; i++) {
                pins += towns[i].box;
            }
            return pins;
        }

        private int pinsInDrums() {
            int pins = 0;
            for (int i = 0; i < townCount; i++) {
                pins += sizeOf(towns[i].drum);
            }
            return pins;
        }

        private int allRightPins() {
            int right = 0;
            for (int i = 0; i < townCount; i++) {
                right += towns[i].rightPins();
            }
            return right;
        }
    }

    /** Plays a copy of a drum, so that what would be and what is are told by the same code. */
    private static final class Playing {
        private final int[] drum = new int[STEPS];
        private final int[] wear = new int[TEETH];
        private final int[] latest = new int[TEETH];
        private final int[] sounding = new int[STEPS];
        private int rest;
        private int dullFrom;
        private int sounds;
        private int stayed;
        private int fallen;
        private int rightSounds;
        private int rightFallen;

        private void begin(Town town, int[] settings) {
            copyRow(town.drum, drum);
            copyRow(town.wear, wear);
            rest = settings[REST];
            dullFrom = settings[DULL_FROM];
        }

        private void goThrough(int[] tune) {
            forgetSounds();
            for (int i = 0; i < STEPS; i++) {
                if (drum[i] != 0) {
                    passStep(i, tune[i]);
                }
            }
        }

        private void passStep(int at, int tuneTeeth) {
            for (int tooth = 0; tooth < TEETH; tooth++) {
                if ((drum[at] & 1 << tooth) != 0) {
                    meetPin(at, tooth, (tuneTeeth & 1 << tooth) != 0);
                }
            }
        }

        private void forgetSounds() {
            sounds = 0;
            stayed = 0;
            fallen = 0;
            rightSounds = 0;
            rightFallen = 0;
            for (int i = 0; i < STEPS; i++) {
                sounding[i] = 0;
            }
            for (int i = 0; i < TEETH; i++) {
                // So long ago that even the longest rest is over at step 0.
                latest[i] = -STEPS;
            }
        }

        private void meetPin(int at, int tooth, boolean right) {
            if (wear[tooth] >= dullFrom) {
                drum[at] &= ~(1 << tooth);
                fallen++;
                rightFallen += right ? 1 : 0;
            } else if (at - latest[tooth] < rest) {
                stayed++;
            } else {
                sounding[at] |= 1 << tooth;
                latest[tooth] = at;
                wear[tooth]++;
                sounds++;
                rightSounds += right ? 1 : 0;
            }
        }

        private int tell(int what) {
            switch (what) {
                case 0: return sounds;
                case 1: return stayed;
                case 2: return fallen;
                case 3: return rightSounds;
                default: return dullTeeth(wear, dullFrom);
            }
        }
    }

    /** The first ring of a land; its length is 0 if there is none. */
    private static final class Ring {
        private final int[] row = new int[MOST_TOWNS];
        private int length;
        private int least;

        private void find(Land land) {
            length = 0;
            least = 0;
            for (int size = 2; size <= land.townCount; size++) {
                for (int first = 0; first < land.townCount; first++) {
                    row[0] = first;
                    if (isClosed(land, row, size, 1, 1 << first)) {
                        length = size;
                        least = leastDebt(land.debts);
                        return;
                    }
                }
            }
        }

        // Lower towns are tried first, so the first row that closes is the first of its length.
        private static boolean isClosed(Land land, int[] row, int size, int depth, int used) {
            if (depth < 1 || depth > size || size > MOST_TOWNS) {
                return false;
            }
            int last = row[depth - 1];
            if (depth == size) {
                return land.debts[last][row[0]] > 0;
            }
            for (int next = row[0] + 1; next < land.townCount; next++) {
                if ((used & 1 << next) == 0 && land.debts[last][next] > 0) {
                    row[depth] = next;
                    if (isClosed(land, row, size, depth + 1, used | 1 << next)) {
                        return true;
                    }
                }
            }
            return false;
        }

        private int following(int place) {
            return place + 1 < length ? row[place + 1] : row[0];
        }

        private int leastDebt(int[][] debts) {
            int found = debts[row[0]][following(0)];
            for (int i = 1; i < length; i++) {
                found = Math.min(found, debts[row[i]][following(i)]);
            }
            return found;
        }

        private int tell(int what) {
            if (length == 0) {
                return NONE;
            }
            if (what < FIRST_PLACE) {
                return what == 0 ? length : least;
            }
            int place = what - FIRST_PLACE;
            return place < length ? row[place] : NONE;
        }
    }

    /**
     * The towns choose drums in their order; rest tells, for each set of drums that are had (as
     * many as towns have chosen), the most right pins that the later towns can bring together.
     */
    private static final class Trades {
        private final int[][] fit = new int[MOST_TOWNS][MOST_TOWNS];
        private final int[] rest = new int[1 << MOST_TOWNS];
        private final int[] drumOf = new int[MOST_TOWNS];
        private int townCount;
        private int most;

        private void find(Land land) {
            townCount = land.townCount;
            for (int i = 0; i < townCount; i++) {
                for (int j = 0; j < townCount; j++) {
                    fit[i][j] = sharedBy(land.towns[j].drum, land.towns[i].tune);
                }
            }
            int all = (1 << townCount) - 1;
            rest[all] = 0;
            for (int had = all - 1; had >= 0; had--) {
                int town = Integer.bitCount(had);
                rest[had] = broughtBy(town, firstBest(had), had);
            }
            most = rest[0];
            choose();
        }

        private void choose() {
            int had = 0;
            for (int town = 0; town < townCount; town++) {
                int drum = firstBest(had);
                drumOf[town] = drum;
                had |= 1 << drum;
            }
        }

        private int firstBest(int had) {
            int town = Integer.bitCount(had);
            int best = 0;
            int bestBrought = -1;
            for (int drum = 0; drum < townCount; drum++) {
                if ((had & 1 << drum) == 0 && broughtBy(town, drum, had) > bestBrought) {
                    best = drum;
                    bestBrought = broughtBy(town, drum, had);
                }
            }
            return best;
        }

        private int broughtBy(int town, int drum, int had) {
            return fit[town][drum] + rest[had | 1 << drum];
        }

        private int tell(int what) {
            if (what < FIRST_PLACE) {
                return most;
            }
            int town = what - FIRST_PLACE;
            return town < townCount ? drumOf[town] : NONE;
        }
    }

    /** The buffer, and the tune that it was read as. */
    private static final class TuneText {
        private final int[] codes = new int[MOST_CODES];
        private int length;
        private final int[] tune = new int[STEPS];
        private int stepsRead;
        private boolean inBrackets;
        private int bracketTeeth;

        private int readAll() {
            for (int i = 0; i < STEPS; i++) {
                tune[i] = 0;
            }
            stepsRead = 0;
            inBrackets = false;
            for (int i = 0; i < length && i < MOST_CODES; i++) {
                boolean fits = inBrackets ? readInside(codes[i]) : readOutside(codes[i]);
                if (!fits) {
                    return i;
                }
            }
            return length;
        }

        private boolean isComplete() {
            return stepsRead > 0 && !inBrackets;
        }

        private boolean readOutside(int code) {
            if (stepsRead >= STEPS) {
                return false;
            }
            if (code == '(') {
                inBrackets = true;
                bracketTeeth = 0;
                return true;
            }
            if (code == '-' || isTooth(code)) {
                endStep(code == '-' ? 0 : 1 << code - 'a');
                return true;
            }
            return false;
        }

        private boolean readInside(int code) {
            if (code == ')' && Integer.bitCount(bracketTeeth) >= 2) {
                inBrackets = false;
                endStep(bracketTeeth);
                return true;
            }
            if (!isTooth(code)) {
                return false;
            }
            int bit = 1 << code - 'a';
            // As the first letter, the last tooth would leave none for the second one.
            boolean tooLate = bracketTeeth == 0 && code == 'a' + TEETH - 1;
            if (bit <= bracketTeeth || tooLate) {
                return false;
            }
            bracketTeeth |= bit;
            return true;
        }

        private void endStep(int teeth) {
            if (stepsRead < STEPS) {
                tune[stepsRead] = teeth;
                stepsRead++;
            }
        }

        private static boolean isTooth(int code) {
            return code >= 'a' && code < 'a' + TEETH;
        }
    }
}
