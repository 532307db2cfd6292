import java.util.ArrayDeque;
import java.util.ArrayList;
import java.util.Comparator;
import java.util.List;

/**
 * The document once more, step by step and without regard to speed or room: what random runs
 * compare the program with. It shares no code with the program.
 */
public final class PlainReservoir {
    private record Roof(int area, int share, int flush, int gutter) {
    }

    private record Account(long[] values) {
    }

    /** All that undo() brings back. The rows of the roofs and users stand beside their amounts. */
    private static final class Saved {
        int capacity = 10000;
        int floor;
        int topUp;
        int evaporation;
        int dryLimit = 3;
        int rule;
        int level;
        int dryDays;
        long looseOverflow;
        List<Roof> roofs = new ArrayList<>();
        List<Integer> waters = new ArrayList<>();
        List<Integer> demands = new ArrayList<>();
        List<Integer> weights = new ArrayList<>();
        List<Integer> latest = new ArrayList<>();
        List<Integer> inAll = new ArrayList<>();
        List<Integer> rains = new ArrayList<>();
        List<Account> accounts = new ArrayList<>();

        Saved copy() {
            Saved c = new Saved();
            c.capacity = capacity;
            c.floor = floor;
            c.topUp = topUp;
            c.evaporation = evaporation;
            c.dryLimit = dryLimit;
            c.rule = rule;
            c.level = level;
            c.dryDays = dryDays;
            c.looseOverflow = looseOverflow;
            c.roofs = new ArrayList<>(roofs);
            c.waters = new ArrayList<>(waters);
            c.demands = new ArrayList<>(demands);
            c.weights = new ArrayList<>(weights);
            c.latest = new ArrayList<>(latest);
            c.inAll = new ArrayList<>(inAll);
            c.rains = new ArrayList<>(rains);
            c.accounts = new ArrayList<>(accounts);
            return c;
        }
    }

    private Saved s = new Saved();
    private final ArrayDeque<Saved> undos = new ArrayDeque<>();
    private final StringBuilder text = new StringBuilder();

    private static void argument(boolean right) {
        if (!right) {
            throw new IllegalArgumentException();
        }
    }

    private static void index(boolean right) {
        if (!right) {
            throw new IndexOutOfBoundsException();
        }
    }

    private static void state(boolean right) {
        if (!right) {
            throw new IllegalStateException();
        }
    }

    private static boolean in(int value, int least, int most) {
        return least <= value && value <= most;
    }

    private void save() {
        undos.addLast(s.copy());
        if (undos.size() > 4) {
            undos.removeFirst();
        }
    }

    public int addRoof(int area, int share, int flush, int gutter) {
        argument(in(area, 1, 500) && in(share, 1, 100) && in(flush, 0, 999) && in(gutter, 1, 50000));
        state(s.roofs.size() < 6);
        save();
        s.roofs.add(new Roof(area, share, flush, gutter));
        s.waters.add(0);
        return s.roofs.size() - 1;
    }

    public int addUser(int demand, int weight) {
        argument(in(demand, 0, 9999) && in(weight, 1, 9));
        state(s.demands.size() < 5);
        save();
        s.demands.add(demand);
        s.weights.add(weight);
        s.latest.add(0);
        s.inAll.add(0);
        return s.demands.size() - 1;
    }

    public int setDemand(int user, int demand) {
        index(in(user, 0, s.demands.size() - 1));
        argument(in(demand, 0, 9999));
        save();
        return s.demands.set(user, demand);
    }

    public int setReservoir(int capacity, int floor, int topUp) {
        argument(in(capacity, 100, 60000) && in(floor, 0, capacity) && in(topUp, 0, capacity));
        save();
        int previous = s.capacity;
        s.capacity = capacity;
        s.floor = floor;
        s.topUp = topUp;
        if (s.level > capacity) {
            s.looseOverflow += s.level - capacity;
            s.level = capacity;
        }
        return previous;
    }

    public int setWays(int evaporation, int dryLimit, int rule) {
        argument(in(evaporation, 0, 100) && in(dryLimit, 1, 20) && in(rule, 0, 3));
        save();
        int previous = s.rule;
        s.evaporation = evaporation;
        s.dryLimit = dryLimit;
        s.rule = rule;
        return previous;
    }

    public int setting(int what) {
        argument(in(what, 0, 11));
        return new int[] {s.capacity, s.floor, s.topUp, s.evaporation, s.dryLimit, s.rule, s.roofs.size(),
            s.demands.size(), s.rains.size(), s.accounts.size(), s.level, s.dryDays}[what];
    }

    public int roof(int roof, int what) {
        index(in(roof, 0, s.roofs.size() - 1));
        argument(in(what, 0, 4));
        Roof r = s.roofs.get(roof);
        return new int[] {r.area, r.share, r.flush, r.gutter, s.waters.get(roof)}[what];
    }

    public int user(int user, int what) {
        index(in(user, 0, s.demands.size() - 1));
        argument(in(what, 0, 3));
        return List.of(s.demands, s.weights, s.latest, s.inAll).get(what).get(user);
    }

    public int addRain(int rain, int days) {
        argument(in(rain, 0, 200) && in(days, 1, 100));
        state(s.rains.size() + days <= 100);
        save();
        for (int i = 0; i < days; i++) {
            s.rains.add(rain);
        }
        return s.rains.size();
    }

    public int addRandomRain(int seed, int days, int chance, int most) {
        argument(in(seed, 0, 999999) && in(days, 1, 100) && in(chance, 0, 100) && in(most, 1, 200));
        state(s.rains.size() + days <= 100);
        save();
        // Modulo 2 to the power of 31: the low 31 bits, whatever overflows.
        long n = seed;
        for (int i = 0; i < days; i++) {
            n = (1103515245L * n + 12345) & 0x7fffffffL;
            if ((n >> 16) % 100 < chance) {
                n = (1103515245L * n + 12345) & 0x7fffffffL;
                s.rains.add((int) (1 + (n >> 16) % most));
            } else {
                s.rains.add(0);
            }
        }
        return s.rains.size();
    }

    public int rain(int day) {
        index(in(day, 0, s.rains.size() - 1));
        return s.rains.get(day);
    }

    public int run(int days) {
        argument(in(days, 0, 100));
        state(s.accounts.size() + days <= s.rains.size());
        save();
        int shortDays = 0;
        for (int i = 0; i < days; i++) {
            shortDays += doDay(s, null) ? 1 : 0;
        }
        return shortDays;
    }

    /** Does the next day; tells whether it was short. Adds to losses what each roof spills. */
    private static boolean doDay(Saved t, long[] losses) {
        int rain = t.rains.get(t.accounts.size());
        long[] a = new long[10];
        if (rain == 0) {
            t.dryDays++;
            if (t.dryDays >= t.dryLimit) {
                for (int i = 0; i < t.roofs.size(); i++) {
                    a[9] += t.waters.set(i, 0);
                }
            }
        } else {
            t.dryDays = 0;
        }
        for (int i = 0; i < t.roofs.size(); i++) {
            Roof r = t.roofs.get(i);
            int left = r.area * rain * r.share / 100;
            while (left > 0 && t.waters.get(i) < r.flush) {
                t.waters.set(i, t.waters.get(i) + 1);
                left--;
                a[2]++;
            }
            int spilled = left > r.gutter ? left - r.gutter : 0;
            a[3] += spilled;
            a[1] += left - spilled;
            if (losses != null) {
                losses[i] += spilled;
            }
        }
        t.level += (int) a[1];
        if (t.level > t.capacity) {
            a[4] = t.level - t.capacity;
            t.level = t.capacity;
        }
        a[5] = t.level * t.evaporation / 1000;
        t.level -= (int) a[5];
        int available = t.level - t.floor;
        if (available < 0) {
            available = 0;
        }
        List<Integer> got = shares(t, available);
        boolean isShort = false;
        for (int i = 0; i < got.size(); i++) {
            t.latest.set(i, got.get(i));
            t.inAll.set(i, t.inAll.get(i) + got.get(i));
            t.level -= got.get(i);
            a[6] += got.get(i);
            a[7] += t.demands.get(i) - got.get(i);
            isShort |= got.get(i) < t.demands.get(i);
        }
        if (t.level < t.topUp) {
            a[8] = t.topUp - t.level;
            t.level = t.topUp;
        }
        a[0] = t.level;
        t.accounts.add(new Account(a));
        return isShort;
    }

    private static List<Integer> shares(Saved t, int available) {
        long all = 0;
        for (int demand : t.demands) {
            all += demand;
        }
        if (available >= all) {
            return new ArrayList<>(t.demands);
        }
        switch (t.rule) {
            case 0: return inProportion(t.demands, available, all);
            case 2: return inRounds(t.demands, t.weights, available);
            default: return inOrder(t.demands, available, t.rule == 3);
        }
    }

    private static List<Integer> inProportion(List<Integer> demands, int available, long all) {
        List<Integer> got = new ArrayList<>();
        long left = available;
        for (int demand : demands) {
            int part = (int) ((long) demand * available / all);
            got.add(part);
            left -= part;
        }
        for (int i = 0; left > 0; i = (i + 1) % demands.size()) {
            if (got.get(i) < demands.get(i)) {
                got.set(i, got.get(i) + 1);
                left--;
            }
        }
        return got;
    }

    private static List<Integer> inRounds(List<Integer> demands, List<Integer> weights, int available) {
        List<Integer> got = new ArrayList<>();
        for (int i = 0; i < demands.size(); i++) {
            got.add(0);
        }
        int left = available;
        for (int i = 0; left > 0; i = (i + 1) % demands.size()) {
            int part = Math.min(left, Math.min(10 * weights.get(i), demands.get(i) - got.get(i)));
            got.set(i, got.get(i) + part);
            left -= part;
        }
        return got;
    }

    private static List<Integer> inOrder(List<Integer> demands, int available, boolean smallestFirst) {
        List<Integer> users = new ArrayList<>();
        List<Integer> got = new ArrayList<>();
        for (int i = 0; i < demands.size(); i++) {
            users.add(i);
            got.add(0);
        }
        if (smallestFirst) {
            users.sort(Comparator.comparing((Integer i) -> demands.get(i)).thenComparing(i -> i));
        }
        int left = available;
        for (int i : users) {
            got.set(i, Math.min(left, demands.get(i)));
            left -= got.get(i);
        }
        return got;
    }

    private static void goBack(Saved t) {
        t.level = 0;
        t.dryDays = 0;
        t.looseOverflow = 0;
        t.accounts.clear();
        t.waters.replaceAll(w -> 0);
        t.latest.replaceAll(w -> 0);
        t.inAll.replaceAll(w -> 0);
    }

    public int restart() {
        save();
        int done = s.accounts.size();
        goBack(s);
        return done;
    }

    public int day(int day, int what) {
        index(in(day, 0, s.accounts.size() - 1));
        argument(in(what, 0, 9));
        return (int) s.accounts.get(day).values[what];
    }

    public long sum(int what) {
        argument(in(what, 1, 9));
        long sum = 0;
        for (Account a : s.accounts) {
            sum += a.values[what];
        }
        return what == 4 ? sum + s.looseOverflow : sum;
    }

    public double reliability() {
        if (s.accounts.isEmpty()) {
            return 1.0;
        }
        double good = 0;
        for (Account a : s.accounts) {
            good += a.values[7] == 0 ? 1 : 0;
        }
        return good / s.accounts.size();
    }

    public int longestShortage() {
        int longest = 0;
        for (int from = 0; from < s.accounts.size(); from++) {
            int to = from;
            while (to < s.accounts.size() && s.accounts.get(to).values[7] > 0) {
                to++;
            }
            longest = Math.max(longest, to - from);
        }
        return longest;
    }

    private Saved copyOfDayZero() {
        Saved copy = s.copy();
        goBack(copy);
        return copy;
    }

    private static int shortDays(Saved t) {
        int count = 0;
        for (int i = 0; i < t.rains.size(); i++) {
            count += doDay(t, null) ? 1 : 0;
        }
        return count;
    }

    public int shortDaysWith(int capacity) {
        argument(in(capacity, 100, 60000));
        Saved t = copyOfDayZero();
        t.capacity = capacity;
        t.floor = Math.min(t.floor, capacity);
        t.topUp = Math.min(t.topUp, capacity);
        return shortDays(t);
    }

    public int capacityFor(int days) {
        argument(in(days, 0, 100));
        for (int capacity = 500; capacity <= 60000; capacity += 500) {
            if (shortDaysWith(capacity) <= days) {
                return capacity;
            }
        }
        return -1;
    }

    public int bestRule() {
        long[] lacks = new long[4];
        int best = 0;
        for (int rule = 0; rule < 4; rule++) {
            Saved t = copyOfDayZero();
            t.rule = rule;
            shortDays(t);
            for (int i = 0; i < t.demands.size(); i++) {
                lacks[rule] = Math.max(lacks[rule], (long) t.demands.get(i) * t.rains.size() - t.inAll.get(i));
            }
            best = lacks[rule] < lacks[best] ? rule : best;
        }
        return best;
    }

    public int sustainable() {
        for (int percent = 300; percent >= 5; percent -= 5) {
            int p = percent;
            Saved t = copyOfDayZero();
            t.demands.replaceAll(demand -> demand * p / 100);
            if (shortDays(t) == 0) {
                return percent;
            }
        }
        return -1;
    }

    public long gutterLoss(int roof) {
        index(in(roof, 0, s.roofs.size() - 1));
        Saved t = copyOfDayZero();
        long[] losses = new long[6];
        for (int i = 0; i < t.rains.size(); i++) {
            doDay(t, losses);
        }
        return losses[roof];
    }

    public int append(int value) {
        argument(in(value, 0, 127));
        state(text.length() < 120);
        text.append((char) value);
        return text.length();
    }

    public int clearText() {
        int previous = text.length();
        text.setLength(0);
        return previous;
    }

    /** A machine with a state for each byte: 0 to 3 digits of the rain, then 0 to 2 of the days. */
    public int parse() {
        List<Integer> more = new ArrayList<>();
        int rainDigits = 0;
        int dayDigits = -1;
        int number = 0;
        int rain = 0;
        for (int at = 0; at <= text.length(); at++) {
            boolean end = at == text.length();
            char c = end ? '?' : text.charAt(at);
            boolean digit = !end && c >= '0' && c <= '9';
            int digits = dayDigits < 0 ? rainDigits : dayDigits;
            int mostDigits = dayDigits < 0 ? 3 : 2;
            if (end && rainDigits == 0) {
                break;
            }
            if (digit && digits < mostDigits) {
                number = number * 10 + (c - '0');
                if (dayDigits < 0) {
                    rainDigits++;
                } else {
                    dayDigits++;
                }
                continue;
            }
            if (digit || digits == 0) {
                return -10 - at;
            }
            if (dayDigits < 0 ? number > 200 : number == 0) {
                return -10 - (at - digits);
            }
            if (c == 'x' && dayDigits < 0) {
                rain = number;
                number = 0;
                dayDigits = 0;
                continue;
            }
            int days = dayDigits < 0 ? 1 : number;
            if (end || c != ';' || s.rains.size() + more.size() + days > 100) {
                return -10 - at;
            }
            for (int i = 0; i < days; i++) {
                more.add(dayDigits < 0 ? number : rain);
            }
            rainDigits = 0;
            dayDigits = -1;
            number = 0;
        }
        save();
        s.rains.addAll(more);
        return s.rains.size();
    }

    public int undo() {
        state(!undos.isEmpty());
        s = undos.removeLast();
        return undos.size();
    }

    public long digest() {
        List<Long> values = new ArrayList<>();
        values.add((long) text.length());
        for (int what = 0; what <= 11; what++) {
            values.add((long) setting(what));
        }
        for (int i = 0; i < s.roofs.size(); i++) {
            for (int what = 0; what <= 4; what++) {
                values.add((long) roof(i, what));
            }
        }
        for (int i = 0; i < s.demands.size(); i++) {
            for (int what = 0; what <= 3; what++) {
                values.add((long) user(i, what));
            }
        }
        for (int rain : s.rains) {
            values.add((long) rain);
        }
        for (Account a : s.accounts) {
            for (long v : a.values) {
                values.add(v);
            }
        }
        for (int what = 1; what <= 9; what++) {
            values.add(sum(what));
        }
        values.add((long) undos.size());
        long h = 3203;
        for (long v : values) {
            h = 31 * h + v;
        }
        return h;
    }
}
