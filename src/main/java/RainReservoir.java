/**
 * A simulator of a rainwater reservoir: roofs, diverters, users, rains, accounts of each day, and
 * what-if questions. The promises that it keeps are those of the project's DOC.md.
 */
public final class RainReservoir {
    public static final int NONE = -1;

    private static final int MOST_ROOFS = 6;
    private static final int MOST_USERS = 5;
    private static final int MOST_DAYS = 100;
    private static final int MOST_RAIN = 200;
    private static final int MOST_DEMAND = 9999;
    private static final int LEAST_CAPACITY = 100;
    private static final int MOST_CAPACITY = 60000;
    private static final int CAPACITY_STEP = 500;
    private static final int MOST_PERCENT = 300;
    private static final int PERCENT_STEP = 5;
    private static final int RULES = 4;
    private static final int MOST_SAVED = 4;
    private static final int MOST_BYTES = 120;
    private static final int LITERS_A_WEIGHT = 10;

    // What an account of a day holds, by the numbers that day() and sum() take.
    private static final int LEVEL = 0;
    private static final int INFLOW = 1;
    private static final int DIVERTED = 2;
    private static final int SPILLED = 3;
    private static final int OVERFLOWED = 4;
    private static final int EVAPORATED = 5;
    private static final int GOT = 6;
    private static final int LACKED = 7;
    private static final int MAINS = 8;
    private static final int DRAINED = 9;
    private static final int ACCOUNT_SIZE = 10;

    private static final int SETTINGS = 12;
    private static final int ROOF_VALUES = 5;
    private static final int USER_VALUES = 4;

    private final State now;
    /** The copy on which the what-if questions are tried. */
    private final State trial;
    /** The oldest comes first. All of them are made at once, and used again. */
    private final State[] saved;
    private int savedCount;
    private final RainText text;

    public RainReservoir() {
        now = new State();
        trial = new State();
        saved = new State[MOST_SAVED];
        for (int i = 0; i < saved.length; i++) {
            saved[i] = new State();
        }
        text = new RainText();
    }

    public int addRoof(int area, int share, int flush, int gutter)
            throws IllegalArgumentException, IllegalStateException {
        checkRange(area, 1, 500);
        checkRange(share, 1, 100);
        checkRange(flush, 0, 999);
        checkRange(gutter, 1, 50000);
        if (now.roofCount >= MOST_ROOFS) {
            throw new IllegalStateException("no room for another roof");
        }
        save();
        now.roofs[now.roofCount].set(area, share, flush, gutter);
        now.roofCount++;
        return now.roofCount - 1;
    }

    public int addUser(int demand, int weight) throws IllegalArgumentException, IllegalStateException {
        checkRange(demand, 0, MOST_DEMAND);
        checkRange(weight, 1, 9);
        if (now.users.count >= MOST_USERS) {
            throw new IllegalStateException("no room for another user");
        }
        save();
        now.users.rows[now.users.count].set(demand, weight);
        now.users.count++;
        return now.users.count - 1;
    }

    public int setDemand(int user, int demand) throws IndexOutOfBoundsException, IllegalArgumentException {
        checkIndex(user, now.users.count);
        checkRange(demand, 0, MOST_DEMAND);
        save();
        User changed = now.users.rows[user];
        int previous = changed.demand;
        changed.demand = demand;
        return previous;
    }

    public int setReservoir(int capacity, int floor, int topUp) throws IllegalArgumentException {
        checkRange(capacity, LEAST_CAPACITY, MOST_CAPACITY);
        checkRange(floor, 0, capacity);
        checkRange(topUp, 0, capacity);
        save();
        int previous = now.capacity;
        now.capacity = capacity;
        now.floor = floor;
        now.topUp = topUp;
        now.looseOverflow += now.dropAboveCapacity();
        return previous;
    }

    public int setWays(int evaporation, int dryLimit, int rule) throws IllegalArgumentException {
        checkRange(evaporation, 0, 100);
        checkRange(dryLimit, 1, 20);
        checkRange(rule, 0, RULES - 1);
        save();
        int previous = now.rule;
        now.evaporation = evaporation;
        now.dryLimit = dryLimit;
        now.rule = rule;
        return previous;
    }

    public int setting(int what) throws IllegalArgumentException {
        checkRange(what, 0, SETTINGS - 1);
        return now.settingValue(what);
    }

    public int roof(int roof, int what) throws IndexOutOfBoundsException, IllegalArgumentException {
        checkIndex(roof, now.roofCount);
        checkRange(what, 0, ROOF_VALUES - 1);
        return now.roofs[roof].value(what);
    }

    public int user(int user, int what) throws IndexOutOfBoundsException, IllegalArgumentException {
        checkIndex(user, now.users.count);
        checkRange(what, 0, USER_VALUES - 1);
        return now.users.rows[user].value(what);
    }

    public int addRain(int rain, int days) throws IllegalArgumentException, IllegalStateException {
        checkRange(rain, 0, MOST_RAIN);
        checkRange(days, 1, MOST_DAYS);
        checkRoomForDays(days);
        save();
        for (int i = 0; i < days; i++) {
            now.putRain(rain);
        }
        return now.rainCount;
    }

    public int addRandomRain(int seed, int days, int chance, int most)
            throws IllegalArgumentException, IllegalStateException {
        checkRange(seed, 0, 999999);
        checkRange(days, 1, MOST_DAYS);
        checkRange(chance, 0, 100);
        checkRange(most, 1, MOST_RAIN);
        checkRoomForDays(days);
        save();
        long s = seed;
        for (int i = 0; i < days; i++) {
            int rain = 0;
            s = nextRandom(s);
            if (s / 65536 % 100 < chance) {
                s = nextRandom(s);
                rain = 1 + (int) (s / 65536 % most);
            }
            now.putRain(rain);
        }
        return now.rainCount;
    }

    public int rain(int day) throws IndexOutOfBoundsException {
        checkIndex(day, now.rainCount);
        return now.rains[day];
    }

    public int run(int days) throws IllegalArgumentException, IllegalStateException {
        checkRange(days, 0, MOST_DAYS);
        if (days > now.rainCount - now.doneCount) {
            throw new IllegalStateException("not so many days of rain are left");
        }
        save();
        int shortDays = 0;
        for (int i = 0; i < days; i++) {
            int day = now.doneCount;
            now.collect(day);
            now.serve(day);
            now.doneCount++;
            if (now.isShort(day)) {
                shortDays++;
            }
        }
        return shortDays;
    }

    public int restart() {
        save();
        int done = now.doneCount;
        now.goBack();
        return done;
    }

    public int day(int day, int what) throws IndexOutOfBoundsException, IllegalArgumentException {
        checkIndex(day, now.doneCount);
        checkRange(what, 0, ACCOUNT_SIZE - 1);
        return now.account(day, what);
    }

    public long sum(int what) throws IllegalArgumentException {
        checkRange(what, 1, ACCOUNT_SIZE - 1);
        long sum = what == OVERFLOWED ? now.looseOverflow : 0;
        for (int day = 0; day < now.doneCount; day++) {
            sum += now.account(day, what);
        }
        return sum;
    }

    public double reliability() {
        int done = now.doneCount;
        if (done == 0) {
            return 1.0;
        }
        int good = 0;
        for (int day = 0; day < done; day++) {
            if (!now.isShort(day)) {
                good++;
            }
        }
        return (double) good / (double) done;
    }

    public int longestShortage() {
        int longest = 0;
        int length = 0;
        for (int day = 0; day < now.doneCount; day++) {
            length = now.isShort(day) ? length + 1 : 0;
            longest = Math.max(longest, length);
        }
        return longest;
    }

    public int shortDaysWith(int capacity) throws IllegalArgumentException {
        checkRange(capacity, LEAST_CAPACITY, MOST_CAPACITY);
        prepareTrial();
        setTrialCapacity(capacity);
        return trial.serveAll(MOST_DAYS);
    }

    public int capacityFor(int days) throws IllegalArgumentException {
        checkRange(days, 0, MOST_DAYS);
        prepareTrial();
        for (int capacity = CAPACITY_STEP; capacity <= MOST_CAPACITY; capacity += CAPACITY_STEP) {
            setTrialCapacity(capacity);
            if (trial.serveAll(days) <= days) {
                return capacity;
            }
        }
        return NONE;
    }

    public int bestRule() {
        prepareTrial();
        int best = 0;
        int leastLack = 0;
        for (int rule = 0; rule < RULES; rule++) {
            trial.rule = rule;
            trial.serveAll(MOST_DAYS);
            int lack = trial.users.greatestLack(trial.rainCount);
            if (rule == 0 || lack < leastLack) {
                best = rule;
                leastLack = lack;
            }
        }
        return best;
    }

    public int sustainable() {
        prepareTrial();
        for (int percent = MOST_PERCENT; percent >= PERCENT_STEP; percent -= PERCENT_STEP) {
            trial.users.scaleDemands(now.users, percent);
            if (trial.serveAll(0) == 0) {
                return percent;
            }
        }
        return NONE;
    }

    public long gutterLoss(int roof) throws IndexOutOfBoundsException {
        checkIndex(roof, now.roofCount);
        prepareTrial();
        return trial.roofs[roof].spilledInAll;
    }

    public int append(int value) throws IllegalArgumentException, IllegalStateException {
        checkRange(value, 0, 127);
        if (text.length >= MOST_BYTES) {
            throw new IllegalStateException("the text is full");
        }
        text.bytes[text.length] = (byte) value;
        text.length++;
        return text.length;
    }

    public int clearText() {
        int previous = text.length;
        text.length = 0;
        return previous;
    }

    public int parse() {
        int wrong = text.readItems(now.rainCount);
        if (wrong != NONE) {
            return -10 - wrong;
        }
        save();
        for (int i = 0; i < text.foundCount; i++) {
            now.putRain(text.found[i]);
        }
        return now.rainCount;
    }

    public int undo() throws IllegalStateException {
        if (savedCount < 1) {
            throw new IllegalStateException("no state is saved");
        }
        savedCount--;
        now.copyFrom(saved[savedCount]);
        return savedCount;
    }

    public long digest() {
        long h = 31L * 3203 + text.length;
        for (int what = 0; what < SETTINGS; what++) {
            h = 31 * h + now.settingValue(what);
        }
        for (int i = 0; i < now.roofCount; i++) {
            for (int what = 0; what < ROOF_VALUES; what++) {
                h = 31 * h + now.roofs[i].value(what);
            }
        }
        for (int i = 0; i < now.users.count; i++) {
            for (int what = 0; what < USER_VALUES; what++) {
                h = 31 * h + now.users.rows[i].value(what);
            }
        }
        for (int day = 0; day < now.rainCount; day++) {
            h = 31 * h + now.rains[day];
        }
        for (int day = 0; day < now.doneCount; day++) {
            for (int what = 0; what < ACCOUNT_SIZE; what++) {
                h = 31 * h + now.account(day, what);
            }
        }
        for (int what = 1; what < ACCOUNT_SIZE; what++) {
            h = 31 * h + sum(what);
        }
        return 31 * h + savedCount;
    }

    private static void checkRange(int value, int least, int most) {
        if (value < least || value > most) {
            throw new IllegalArgumentException("out of range");
        }
    }

    private static void checkIndex(int index, int count) {
        if (index < 0 || index >= count) {
            throw new IndexOutOfBoundsException("there is no such number");
        }
    }

    private void checkRoomForDays(int days) {
        if (now.rainCount + days > MOST_DAYS) {
            throw new IllegalStateException("no room for so many days of rain");
        }
    }

    private static long nextRandom(long s) {
        return (1103515245L * s + 12345L) % 2147483648L;
    }

    /** Saves the present state; the row of the oldest one is used again if all are taken. */
    private void save() {
        if (savedCount >= MOST_SAVED) {
            State oldest = saved[0];
            for (int i = 1; i < MOST_SAVED; i++) {
                saved[i - 1] = saved[i];
            }
            saved[MOST_SAVED - 1] = oldest;
            savedCount = MOST_SAVED - 1;
        }
        saved[savedCount].copyFrom(now);
        savedCount++;
    }

    /** What the roofs yield is the same for all that is tried, so it is found once. */
    private void prepareTrial() {
        trial.copyFrom(now);
        trial.goBack();
        for (int day = 0; day < trial.rainCount; day++) {
            trial.collect(day);
        }
    }

    private void setTrialCapacity(int capacity) {
        trial.capacity = capacity;
        trial.floor = Math.min(now.floor, capacity);
        trial.topUp = Math.min(now.topUp, capacity);
    }

    private static final class Roof {
        int area;
        int yieldPercent;
        int flush;
        int gutter;
        /** The water in its diverter. */
        int water;
        int spilledInAll;

        void set(int newArea, int newYieldPercent, int newFlush, int newGutter) {
            area = newArea;
            yieldPercent = newYieldPercent;
            flush = newFlush;
            gutter = newGutter;
            clearAmounts();
        }

        void copyFrom(Roof other) {
            set(other.area, other.yieldPercent, other.flush, other.gutter);
            water = other.water;
            spilledInAll = other.spilledInAll;
        }

        void clearAmounts() {
            water = 0;
            spilledInAll = 0;
        }

        int value(int what) {
            switch (what) {
                case 0: return area;
                case 1: return yieldPercent;
                case 2: return flush;
                case 3: return gutter;
                default: return water;
            }
        }

        int caught(int rain) {
            return area * rain * yieldPercent / 100;
        }

        /** Returns how much of an amount the diverter takes. */
        int divert(int amount) {
            int taken = Math.min(amount, flush - water);
            water += taken;
            return taken;
        }

        /** Returns how much of an amount the gutter spills. */
        int spill(int amount) {
            int spilled = Math.max(amount - gutter, 0);
            spilledInAll += spilled;
            return spilled;
        }

        /** Empties the diverter; returns what was in it. */
        int drain() {
            int drained = water;
            water = 0;
            return drained;
        }
    }

    private static final class User {
        int demand;
        int weight;
        int gotLatest;
        int gotInAll;

        void set(int newDemand, int newWeight) {
            demand = newDemand;
            weight = newWeight;
            clearAmounts();
        }

        void copyFrom(User other) {
            set(other.demand, other.weight);
            gotLatest = other.gotLatest;
            gotInAll = other.gotInAll;
        }

        void clearAmounts() {
            gotLatest = 0;
            gotInAll = 0;
        }

        int value(int what) {
            switch (what) {
                case 0: return demand;
                case 1: return weight;
                case 2: return gotLatest;
                default: return gotInAll;
            }
        }

        int lack() {
            return demand - gotLatest;
        }

        /** What a round gives at most. */
        int portion() {
            return LITERS_A_WEIGHT * weight;
        }

        /** Gives at most this amount, and not more than is lacking; returns what was given. */
        int give(int amount) {
            int given = Math.min(amount, lack());
            gotLatest += given;
            return given;
        }
    }

    /** The users, and the rules by which they share what is not enough for all. */
    private static final class Users {
        final User[] rows;
        int count;
        /** The numbers of the users in the order in which they are served. */
        final int[] order;

        Users() {
            rows = new User[MOST_USERS];
            for (int i = 0; i < rows.length; i++) {
                rows[i] = new User();
            }
            order = new int[MOST_USERS];
        }

        void copyFrom(Users other) {
            count = other.count;
            for (int i = 0; i < count; i++) {
                rows[i].copyFrom(other.rows[i]);
            }
        }

        void clearAmounts() {
            for (int i = 0; i < count; i++) {
                rows[i].clearAmounts();
            }
        }

        void scaleDemands(Users other, int percent) {
            for (int i = 0; i < count; i++) {
                rows[i].demand = other.rows[i].demand * percent / 100;
            }
        }

        int demandInAll() {
            int total = 0;
            for (int i = 0; i < count; i++) {
                total += rows[i].demand;
            }
            return total;
        }

        /** The lack of the user who lacks most, if all got their amounts on so many days. */
        int greatestLack(int days) {
            int greatest = 0;
            for (int i = 0; i < count; i++) {
                greatest = Math.max(greatest, rows[i].demand * days - rows[i].gotInAll);
            }
            return greatest;
        }

        /** Hands out the available water for a day; returns what the users got. */
        int handOut(int available, int rule) {
            for (int i = 0; i < count; i++) {
                rows[i].gotLatest = 0;
            }
            int total = demandInAll();
            if (available >= total) {
                orderByNumber();
                serveOrder(total);
            } else {
                share(available, total, rule);
            }
            int got = 0;
            for (int i = 0; i < count; i++) {
                rows[i].gotInAll += rows[i].gotLatest;
                got += rows[i].gotLatest;
            }
            return got;
        }

        private void share(int available, int total, int rule) {
            switch (rule) {
                case 0:
                    shareByDemand(available, total);
                    break;
                case 1:
                    orderByNumber();
                    serveOrder(available);
                    break;
                case 2:
                    shareInRounds(available);
                    break;
                default:
                    orderByDemand();
                    serveOrder(available);
                    break;
            }
        }

        private void shareByDemand(int available, int total) {
            if (total <= 0) {
                return;
            }
            int left = available;
            for (int i = 0; i < count; i++) {
                // A raised demand times a level comes near the end of int, so it is a long.
                long part = (long) rows[i].demand * available / total;
                left -= rows[i].give((int) part);
            }
            // Each user lost less than a liter by the rounding, so going around once is enough.
            for (int i = 0; i < count && left > 0; i++) {
                left -= rows[i].give(1);
            }
        }

        private void orderByNumber() {
            for (int i = 0; i < count; i++) {
                order[i] = i;
            }
        }

        private void orderByDemand() {
            for (int i = 0; i < count; i++) {
                int place = i;
                while (place > 0 && rows[order[place - 1]].demand > rows[i].demand) {
                    order[place] = order[place - 1];
                    place--;
                }
                order[place] = i;
            }
        }

        private void serveOrder(int available) {
            int left = available;
            for (int i = 0; i < count; i++) {
                left -= rows[order[i]].give(left);
            }
        }

        /**
         * A demand can take a thousand rounds, so those that there is water for are done at once,
         * and the next one by itself. Each pass satisfies a user or ends with nothing left.
         */
        private void shareInRounds(int available) {
            int left = available;
            for (int pass = 0; pass <= count && left > 0; pass++) {
                int rounds = fullRounds(left);
                for (int i = 0; i < count; i++) {
                    left -= rows[i].give(rounds * rows[i].portion());
                }
                for (int i = 0; i < count; i++) {
                    left -= rows[i].give(Math.min(left, rows[i].portion()));
                }
            }
        }

        /** How many rounds there is water for, if all who lack some now took whole portions. */
        private int fullRounds(int left) {
            int portions = 0;
            for (int i = 0; i < count; i++) {
                if (rows[i].lack() > 0) {
                    portions += rows[i].portion();
                }
            }
            return portions > 0 ? left / portions : 0;
        }
    }

    /** Everything but the rain text and the saved states. */
    private static final class State {
        int capacity;
        int floor;
        int topUp;
        int evaporation;
        int dryLimit;
        int rule;
        final Roof[] roofs;
        int roofCount;
        final Users users;
        final int[] rains;
        int rainCount;
        int doneCount;
        int level;
        int dryDays;
        /** The overflow that belongs to no day. */
        long looseOverflow;
        /** The accounts of the days, one behind the other. */
        final int[] accounts;

        State() {
            capacity = 10000;
            dryLimit = 3;
            roofs = new Roof[MOST_ROOFS];
            for (int i = 0; i < roofs.length; i++) {
                roofs[i] = new Roof();
            }
            users = new Users();
            rains = new int[MOST_DAYS];
            accounts = new int[MOST_DAYS * ACCOUNT_SIZE];
        }

        void copyFrom(State other) {
            capacity = other.capacity;
            floor = other.floor;
            topUp = other.topUp;
            evaporation = other.evaporation;
            dryLimit = other.dryLimit;
            rule = other.rule;
            roofCount = other.roofCount;
            for (int i = 0; i < roofCount; i++) {
                roofs[i].copyFrom(other.roofs[i]);
            }
            users.copyFrom(other.users);
            rainCount = other.rainCount;
            System.arraycopy(other.rains, 0, rains, 0, rainCount);
            doneCount = other.doneCount;
            System.arraycopy(other.accounts, 0, accounts, 0, doneCount * ACCOUNT_SIZE);
            level = other.level;
            dryDays = other.dryDays;
            looseOverflow = other.looseOverflow;
        }

        void goBack() {
            doneCount = 0;
            level = 0;
            dryDays = 0;
            looseOverflow = 0;
            for (int i = 0; i < roofCount; i++) {
                roofs[i].clearAmounts();
            }
            users.clearAmounts();
        }

        int settingValue(int what) {
            switch (what) {
                case 0: return capacity;
                case 1: return floor;
                case 2: return topUp;
                case 3: return evaporation;
                case 4: return dryLimit;
                case 5: return rule;
                case 6: return roofCount;
                case 7: return users.count;
                case 8: return rainCount;
                case 9: return doneCount;
                case 10: return level;
                default: return dryDays;
            }
        }

        /** The caller has seen that there is room. */
        void putRain(int rain) {
            rains[rainCount] = rain;
            rainCount++;
        }

        int account(int day, int what) {
            return accounts[day * ACCOUNT_SIZE + what];
        }

        boolean isShort(int day) {
            return account(day, LACKED) > 0;
        }

        /** Lowers the level to the capacity; returns what was above. */
        int dropAboveCapacity() {
            int above = Math.max(level - capacity, 0);
            level -= above;
            return above;
        }

        /** The first half of a day: what the roofs, diverters and gutters do. */
        void collect(int day) {
            int rain = rains[day];
            int drained = drainWhenDry(rain);
            int inflow = 0;
            int diverted = 0;
            int spilled = 0;
            for (int i = 0; i < roofCount; i++) {
                int caught = roofs[i].caught(rain);
                int taken = roofs[i].divert(caught);
                int lost = roofs[i].spill(caught - taken);
                inflow += caught - taken - lost;
                diverted += taken;
                spilled += lost;
            }
            put(day, INFLOW, inflow);
            put(day, DIVERTED, diverted);
            put(day, SPILLED, spilled);
            put(day, DRAINED, drained);
        }

        /** The second half of a day: what becomes of the inflow that collect() has put down. */
        void serve(int day) {
            level += account(day, INFLOW);
            put(day, OVERFLOWED, dropAboveCapacity());
            int evaporated = level * evaporation / 1000;
            level -= evaporated;
            int got = users.handOut(Math.max(level - floor, 0), rule);
            level -= got;
            int mains = Math.max(topUp - level, 0);
            level += mains;
            put(day, EVAPORATED, evaporated);
            put(day, GOT, got);
            put(day, LACKED, users.demandInAll() - got);
            put(day, MAINS, mains);
            put(day, LEVEL, level);
        }

        /**
         * Goes through the second halves of all days of rain from an empty reservoir on; returns
         * the number of short days, and stops as soon as there are more than enough.
         */
        int serveAll(int enough) {
            level = 0;
            users.clearAmounts();
            int shortDays = 0;
            for (int day = 0; day < rainCount && shortDays <= enough; day++) {
                serve(day);
                if (isShort(day)) {
                    shortDays++;
                }
            }
            return shortDays;
        }

        private int drainWhenDry(int rain) {
            if (rain > 0) {
                dryDays = 0;
                return 0;
            }
            dryDays++;
            int drained = 0;
            if (dryDays >= dryLimit) {
                for (int i = 0; i < roofCount; i++) {
                    drained += roofs[i].drain();
                }
            }
            return drained;
        }

        private void put(int day, int what, int amount) {
            accounts[day * ACCOUNT_SIZE + what] = amount;
        }
    }

    private static final class RainText {
        final byte[] bytes;
        int length;
        /** The rains that the latest reading found, a day each. */
        final int[] found;
        int foundCount;
        /** Where the reading stands. */
        private int at;
        /** The number that was read latest. */
        private int number;

        RainText() {
            bytes = new byte[MOST_BYTES];
            found = new int[MOST_DAYS];
        }

        /** Reads all items; returns the position of the syntax error, or NONE. */
        int readItems(int daysBefore) {
            at = 0;
            foundCount = 0;
            int wrong = NONE;
            for (int item = 0; item < MOST_BYTES && at < length && wrong == NONE; item++) {
                wrong = readItem(MOST_DAYS - daysBefore);
            }
            return wrong;
        }

        private int readItem(int mostDays) {
            int wrong = readNumber(3, 0, MOST_RAIN);
            if (wrong != NONE) {
                return wrong;
            }
            int rain = number;
            int days = 1;
            if (isNext('x')) {
                at++;
                wrong = readNumber(2, 1, 99);
                if (wrong != NONE) {
                    return wrong;
                }
                days = number;
            }
            if (!isNext(';') || foundCount + days > mostDays) {
                return at;
            }
            at++;
            for (int i = 0; i < days; i++) {
                found[foundCount] = rain;
                foundCount++;
            }
            return NONE;
        }

        /**
         * Reads a number of at most so many digits. The range is looked at behind the last digit
         * alone, so that a digit too many is told first.
         */
        private int readNumber(int mostDigits, int least, int most) {
            int first = at;
            number = 0;
            while (at < length && bytes[at] >= '0' && bytes[at] <= '9') {
                if (at - first >= mostDigits) {
                    return at;
                }
                number = number * 10 + bytes[at] - '0';
                at++;
            }
            if (at == first || number < least || number > most) {
                return first;
            }
            return NONE;
        }

        private boolean isNext(char sign) {
            return at < length && bytes[at] == sign;
        }
    }
}
