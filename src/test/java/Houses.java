import java.util.NoSuchElementException;
import java.util.function.Consumer;
import java.util.function.Supplier;

/** Tea houses that tests start from. */
final class Houses {
    private Houses() {
    }

    static TeaHouse withKettles(int count) {
        TeaHouse house = new TeaHouse();
        for (int kettle = 0; kettle < count; kettle++) {
            house.addKettle(4 * (kettle + 1));
        }
        return house;
    }

    /** The numbers of the orders go from 0. */
    static TeaHouse withOrders(int count) {
        TeaHouse house = new TeaHouse();
        for (int order = 0; order < count; order++) {
            house.order(0, 1, 60, 1);
        }
        return house;
    }

    static TeaHouse withNights(int count) {
        TeaHouse house = new TeaHouse();
        for (int night = 0; night < count; night++) {
            house.closeNight();
        }
        return house;
    }

    static TeaHouse withText(String text) {
        TeaHouse house = new TeaHouse();
        Words.type(house, text);
        return house;
    }

    static TeaHouse after(String... programs) {
        TeaHouse house = new TeaHouse();
        for (String program : programs) {
            Words.run(house, program);
        }
        return house;
    }

    /** One kettle of 4 litres with so much water of 100 degrees, 31 eighths at most; its burner is off. */
    static TeaHouse hot(int eighths) {
        TeaHouse house = new TeaHouse();
        house.addKettle(16);
        int quarters = (eighths + 2) / 2;
        house.fill(0, quarters);
        house.setBurner(0, 1);
        house.pass(79 + 2 * quarters - eighths);
        house.setBurner(0, 0);
        return house;
    }

    /** So many eighths of a litre of steam, 128 at most; the kettles hold an eighth of water at most. */
    static TeaHouse withSteam(int eighths) {
        TeaHouse house = new TeaHouse();
        for (int left = eighths; left > 0; left -= 32) {
            int volume = Math.min(left, 32);
            int kettle = house.addKettle(16);
            house.fill(kettle, (volume + 1) / 2);
            house.setBurner(kettle, 1);
            house.pass(79 + volume);
            house.setBurner(kettle, 0);
        }
        return house;
    }

    /** So many used cups, 20 at most; two kettles of 100 degrees hold nine cups and one cup at least. */
    static TeaHouse withUsedCups(int count) {
        TeaHouse house = new TeaHouse();
        for (int kettle = 0; kettle < 2; kettle++) {
            house.addKettle(16);
            house.fill(kettle, 16);
            house.setBurner(kettle, 1);
        }
        house.pass(80);
        for (int left = count; left > 0; left -= 6) {
            house.order(0, Math.min(left, 6), 60, 1);
            house.serveNext();
        }
        return house;
    }

    /** Something of everything, and room for more of it. Orders 3 and 2 wait; order 0 was cancelled, 1 was served. */
    static TeaHouse busy() {
        TeaHouse house = new TeaHouse();
        house.addKettle(5);
        house.save();
        runInVain(house, "close!");
        runInVain(house, "cup 9;serve");
        house.addKettle(16);
        house.addKettle(2);
        house.fill(1, 16);
        house.setBurner(1, 5);
        house.pass(14);
        house.fill(2, 2);
        house.order(3, 2, 90, 5);
        house.order(1, 1, 60, 9);
        house.order(9, 6, 100, 1);
        house.order(4, 2, 70, 5);
        house.serveNext();
        house.cancel(0);
        house.sellSteam(3);
        house.closeNight();
        house.setCupPrice(7);
        house.setSteamPrice(3);
        house.sellSteam(2);
        house.closeNight();
        house.sellSteam(1);
        house.setAttendant(false);
        house.formatOrder(2);
        Words.type(house, "cup 9");
        return house;
    }

    /** As much of everything as there can be: kettles, orders, used cups, nights, changes to undo, characters. */
    static TeaHouse full() {
        TeaHouse house = withKettles(4);
        house.fill(3, 16);
        house.fill(2, 12);
        house.setBurner(3, 5);
        house.setBurner(2, 5);
        house.pass(12);
        for (int cups : new int[] {6, 6, 6, 2}) {
            house.order(0, cups, 60, 1);
            house.serveNext();
        }
        for (int table = 0; table < 10; table++) {
            house.order(table, 1 + table % 6, 60 + table, 1 + table % 9);
        }
        for (int night = 0; night < 14; night++) {
            house.closeNight();
        }
        house.sellSteam(1);
        house.formatLedger();
        Words.type(house, "cup 1;cup 2;cup 3;cup 4;cup 5;cup 6;cup 7;cup 8;cup 9;cup 77");
        return house;
    }

    static Supplier<TeaHouse> and(Supplier<TeaHouse> made, Consumer<TeaHouse> more) {
        return () -> {
            TeaHouse house = made.get();
            more.accept(house);
            return house;
        };
    }

    /** A run that must throw, for what it stores. */
    static void runInVain(TeaHouse house, String program) {
        Words.type(house, program);
        try {
            house.run();
        } catch (IllegalArgumentException | IllegalStateException e) {
            return;
        }
        throw new NoSuchElementException("'" + program + "' was not refused");
    }
}
