/** Objects on which boundary cases are tried; each call makes a new one. */
final class Stands {
    private Stands() {
    }

    static RainReservoir fresh() {
        return new RainReservoir();
    }

    /** Some of everything, four different saved states, and a text that can be parsed. */
    static RainReservoir midst() {
        RainReservoir x = new RainReservoir();
        x.addRoof(120, 90, 60, 900);
        x.addRoof(35, 77, 0, 50);
        x.addUser(30, 2);
        x.addUser(0, 9);
        x.addUser(45, 1);
        x.setWays(13, 2, 0);
        x.setReservoir(5000, 20, 90);
        Rows.append(x, "0;12x2;0x3;7;");
        x.parse();
        x.addRain(20, 1);
        x.addRandomRain(77, 6, 50, 30);
        x.run(7);
        x.setReservoir(700, 10, 80);
        x.setDemand(2, 333);
        x.run(3);
        return x;
    }

    static RainReservoir midstWithoutText() {
        RainReservoir x = midst();
        x.clearText();
        return x;
    }

    /** No room for another roof, user, day of rain or byte; 70 of the 100 days are done. */
    static RainReservoir full() {
        RainReservoir x = new RainReservoir();
        for (int i = 0; i < 6; i++) {
            x.addRoof(500 - i, 100 - i, 999 - i, 50000 - i);
        }
        for (int i = 0; i < 5; i++) {
            x.addUser(9999 - i, 9 - i);
        }
        for (int i = 0; i < 60; i++) {
            x.append(i % 7 == 0 ? '9' : '0');
            x.append(';');
        }
        x.parse();
        x.addRain(200, 15);
        x.addRain(0, 25);
        x.setWays(100, 20, 2);
        x.setReservoir(60000, 100, 200);
        x.run(70);
        return x;
    }

    /** All days of rain are done. */
    static RainReservoir ended() {
        RainReservoir x = midst();
        x.run(x.setting(8) - x.setting(9));
        return x;
    }

    /** One roof of so many square meters that loses nothing. */
    static RainReservoir roof(int area) {
        RainReservoir x = new RainReservoir();
        x.addRoof(area, 100, 0, 50000);
        return x;
    }
}
