/** Reads rows of values from a reservoir, and makes reservoirs that tests begin with. */
final class Rows {
    private Rows() {
    }

    static long[] settings(RainReservoir x) {
        long[] row = new long[12];
        for (int what = 0; what < row.length; what++) {
            row[what] = x.setting(what);
        }
        return row;
    }

    static long[] roof(RainReservoir x, int roof) {
        long[] row = new long[5];
        for (int what = 0; what < row.length; what++) {
            row[what] = x.roof(roof, what);
        }
        return row;
    }

    static long[] user(RainReservoir x, int user) {
        long[] row = new long[4];
        for (int what = 0; what < row.length; what++) {
            row[what] = x.user(user, what);
        }
        return row;
    }

    static long[] day(RainReservoir x, int day) {
        long[] row = new long[10];
        for (int what = 0; what < row.length; what++) {
            row[what] = x.day(day, what);
        }
        return row;
    }

    /** The sums 1 to 9. */
    static long[] sums(RainReservoir x) {
        long[] row = new long[9];
        for (int what = 1; what <= row.length; what++) {
            row[what - 1] = x.sum(what);
        }
        return row;
    }

    static long[] rains(RainReservoir x) {
        long[] row = new long[x.setting(8)];
        for (int day = 0; day < row.length; day++) {
            row[day] = x.rain(day);
        }
        return row;
    }

    /** What each user got on the latest day. */
    static long[] latest(RainReservoir x) {
        long[] row = new long[x.setting(7)];
        for (int user = 0; user < row.length; user++) {
            row[user] = x.user(user, 2);
        }
        return row;
    }

    /** A reservoir into which each millimeter of rain brings a liter. */
    static RainReservoir literARain() {
        RainReservoir x = new RainReservoir();
        x.addRoof(1, 100, 0, 50000);
        return x;
    }

    /** What each user gets of so much water by a rule, when there is nothing but one day's rain. */
    static long[] shares(int rule, int water, int[] demands, int... weights) {
        RainReservoir x = literARain();
        x.setWays(0, 3, rule);
        for (int i = 0; i < demands.length; i++) {
            x.addUser(demands[i], weights[i]);
        }
        x.addRain(water, 1);
        x.run(1);
        return latest(x);
    }

    static void append(RainReservoir x, String text) {
        for (int i = 0; i < text.length(); i++) {
            x.append(text.charAt(i));
        }
    }
}
