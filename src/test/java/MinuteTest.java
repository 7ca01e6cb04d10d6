import java.util.NoSuchElementException;

/** Promises 12, 13, 21 to 23, 34, 35, 49, 50 and 52: minutes, boiling, steam and whistles. */
public final class MinuteTest {
    public static void main(String[] args) {
        testHeating();
        testCooling();
        testEmptyKettle();
        testBoiling();
        testBoilsNoMoreThanItHas();
        testBoilsTheLastEighth();
        testWhistles();
        testTurningTheBurnerDoesNotWhistle();
        testAttendant();
        testLostShare();
        testPassRefused();
        testMinutesUntilBoiling();
        testNeverBoils();
        Expect.end();
    }

    private static TeaHouse houseWith(int quarters, int level) {
        TeaHouse house = new TeaHouse();
        house.addKettle(16);
        house.fill(0, quarters);
        house.setBurner(0, level);
        return house;
    }

    private static void testHeating() {
        double[] after = {20.0, 21.0, 22.5, 24.0, 25.5, 27.0};
        for (int level = 0; level <= 5; level++) {
            TeaHouse house = houseWith(8, level);
            Expect.same("no whistle", house.pass(1), 0);
            Expect.same("a minute at level " + level, house.temperature(0), after[level]);
            house.pass(2);
            Expect.same("three minutes at level " + level, house.temperature(0), 20 + 3 * (after[level] - 20));
        }
        TeaHouse house = houseWith(8, 4);
        house.pass(14);
        Expect.same("14 minutes at level 4", house.temperature(0), 97.0);
        house.pass(1);
        Expect.same("at most 100 degrees", house.temperature(0), 100.0);
    }

    private static void testCooling() {
        TeaHouse house = houseWith(8, 5);
        house.pass(1);
        house.setBurner(0, 0);
        house.pass(1);
        Expect.same("half a degree less", house.temperature(0), 26.5);
        house.pass(12);
        Expect.same("13 minutes", house.temperature(0), 20.5);
        house.pass(2);
        Expect.same("at least 20 degrees", house.temperature(0), 20.0);
    }

    private static void testEmptyKettle() {
        TeaHouse house = new TeaHouse();
        house.addKettle(4);
        house.setBurner(0, 5);
        Expect.same("nothing whistles", house.pass(120), 0);
        Expect.same("an empty kettle stays cold", house.temperature(0), 20.0);
        Expect.no("an empty kettle does not boil", house.isBoiling(0));
        house.fill(0, 1);
        house.order(0, 1, 60, 1);
        house.pass(11);
        house.serveNext();
        Expect.same("pouring keeps the temperature", house.temperature(0), 97.0);
        house.pass(1);
        Expect.same("emptied, then a minute", house.temperature(0), 20.0);
        Expect.same("no steam", house.steam(), 0.0);
    }

    private static void testBoiling() {
        for (int level = 1; level <= 5; level++) {
            TeaHouse house = houseWith(16, level);
            int minutes = house.minutesUntilBoiling(0);
            if (minutes > 1) {
                house.pass(minutes - 1);
            }
            Expect.no("not yet at level " + level, house.isBoiling(0));
            Expect.same("volume before boiling", house.volume(0), 4.0);
            Expect.same("whistles", house.pass(1), 1);
            Expect.yes("boils at level " + level, house.isBoiling(0));
            Expect.same("volume", house.volume(0), 4.0 - level * 0.125);
            Expect.same("steam", house.steam(), level * 0.125);
            Expect.same("boiledTotal", house.boiledTotal(), level * 0.125);
            house.sellSteam(1);
            Expect.same("steam after the sale", house.steam(), level * 0.125 - 0.125);
            Expect.same("boiledTotal after the sale", house.boiledTotal(), level * 0.125);
        }
        TeaHouse house = houseWith(16, 5);
        house.pass(12);
        house.setBurner(0, 0);
        Expect.yes("it boiled in the last minute", house.isBoiling(0));
        house.pass(1);
        Expect.no("without fire it does not boil", house.isBoiling(0));
        Expect.same("without fire it cools down", house.temperature(0), 99.5);
        house.setBurner(0, 1);
        house.pass(1);
        Expect.yes("at 100 again", house.isBoiling(0));
    }

    private static void testBoilsNoMoreThanItHas() {
        TeaHouse house = houseWith(3, 4);
        Expect.same("whistles", house.pass(15), 1);
        Expect.same("two eighths are left", house.volume(0), 0.25);
        house.pass(1);
        Expect.same("nothing is left", house.volume(0), 0.0);
        Expect.same("no more than there was", house.steam(), 0.75);
        Expect.yes("it boiled", house.isBoiling(0));
        Expect.same("still hot", house.temperature(0), 100.0);
        house.pass(1);
        Expect.no("it no longer boils", house.isBoiling(0));
        Expect.same("cold", house.temperature(0), 20.0);
        Expect.same("no more steam", house.boiledTotal(), 0.75);
        Expect.yes("balanced", house.isBalanced());
    }

    private static void testBoilsTheLastEighth() {
        TeaHouse house = houseWith(1, 1);
        house.pass(80);
        Expect.same("an eighth is left", house.volume(0), 0.125);
        house.pass(1);
        Expect.yes("it still boils", house.isBoiling(0));
        Expect.same("nothing is left", house.volume(0), 0.0);
        Expect.same("all is steam", house.steam(), 0.25);
    }

    private static void testWhistles() {
        TeaHouse house = new TeaHouse();
        Words.run(house, "kettle 16;kettle 16;fill 0 16;fill 1 16");
        Words.run(house, "burner 0 5;burner 1 4");
        Expect.same("both whistle once", house.pass(15), 2);
        Expect.same("and not again", house.pass(1), 0);
        house.setBurner(0, 0);
        Expect.same("the first pauses", house.pass(1), 0);
        house.setBurner(0, 5);
        Expect.same("and whistles again", house.pass(1), 1);
        Expect.same("heard", house.whistlesHeard(), 3);
        Expect.same("lost", house.whistlesLost(), 0);
        house.fill(0, 4);
        Expect.yes("filling leaves the last minute alone", house.isBoiling(0));
        house.pass(1);
        Expect.no("too cold to boil", house.isBoiling(0));
    }

    private static void testTurningTheBurnerDoesNotWhistle() {
        TeaHouse house = houseWith(16, 5);
        house.pass(12);
        house.setBurner(0, 0);
        house.setBurner(0, 3);
        Expect.same("no second whistle", house.pass(1), 0);
        Expect.yes("still boiling", house.isBoiling(0));
        Expect.same("at the new level", house.steam(), 1.0);
    }

    private static void testAttendant() {
        TeaHouse house = houseWith(16, 5);
        Expect.yes("present at first", house.setAttendant(false));
        Expect.no("absent", house.setAttendant(false));
        Expect.same("a lost whistle counts", house.pass(12), 1);
        Expect.same("lost", house.whistlesLost(), 1);
        Expect.same("heard", house.whistlesHeard(), 0);
        Expect.no("absent until now", house.setAttendant(true));
        house.setBurner(0, 0);
        house.pass(1);
        house.setBurner(0, 1);
        house.pass(1);
        Expect.same("lost as before", house.whistlesLost(), 1);
        Expect.same("heard now", house.whistlesHeard(), 1);
        Expect.yes("present", house.setAttendant(true));
    }

    private static void testLostShare() {
        TeaHouse house = new TeaHouse();
        Expect.thrown("no whistles", ArithmeticException.class, house::lostShare);
        Words.run(house, "kettle 16;kettle 16;fill 0 16;fill 1 16");
        Words.run(house, "burner 0 5;minutes 12");
        Expect.same("none lost", house.lostShare(), 0.0f);
        house.setAttendant(false);
        house.setBurner(1, 5);
        house.pass(12);
        Expect.same("one of two", house.lostShare(), 0.5f);
        house.undo();
        Expect.same("none lost before", house.whistlesLost(), 0);
        house.pass(12);
        house.setAttendant(true);
        Words.run(house, "burner 1 0;minutes 1;burner 1 1;minutes 1");
        Expect.same("one of three", house.lostShare(), 1.0f / 3.0f);
        house.undo();
        Expect.same("one of two again", house.lostShare(), 0.5f);
    }

    private static void testPassRefused() {
        TeaHouse house = houseWith(16, 5);
        for (int minutes : new int[] {0, -1, 121, Integer.MIN_VALUE, Integer.MAX_VALUE}) {
            Expect.thrown("pass(" + minutes + ")", IllegalArgumentException.class, () -> house.pass(minutes));
        }
        Expect.same("the longest pass", house.pass(120), 1);
        Expect.same("all has boiled away", house.steam(), 4.0);
    }

    private static void testMinutesUntilBoiling() {
        int[] due = {0, 80, 32, 20, 15, 12};
        for (int level = 1; level <= 5; level++) {
            TeaHouse house = houseWith(16, level);
            Expect.same("cold at level " + level, house.minutesUntilBoiling(0), due[level]);
            String before = Portrait.of(house);
            for (int left = due[level]; left >= 1; left--) {
                Expect.same("by division", house.minutesUntilBoiling(0), left);
                Expect.same("by minutes", house.minutesUntilBoilingByMinutes(0), left);
                if (left == due[level]) {
                    Expect.same("only a copy has changed", Portrait.of(house), before);
                }
                house.pass(1);
            }
            Expect.yes("boils at level " + level, house.isBoiling(0));
            Expect.same("boils again in the next minute", house.minutesUntilBoiling(0), 1);
            Expect.same("boils again in the next minute, by minutes", house.minutesUntilBoilingByMinutes(0), 1);
        }
    }

    private static void testNeverBoils() {
        TeaHouse house = houseWith(1, 0);
        house.addKettle(4);
        house.setBurner(1, 5);
        Class<NoSuchElementException> type = NoSuchElementException.class;
        for (int kettle = 0; kettle < 2; kettle++) {
            int which = kettle;
            Expect.thrown("never, by division", type, () -> house.minutesUntilBoiling(which));
            Expect.thrown("never, by minutes", type, () -> house.minutesUntilBoilingByMinutes(which));
        }
        Expect.yes("balanced", house.isBalanced());
        Words.run(house, "burner 0 5;minutes 12");
        Expect.same("boiled away", house.volume(0), 0.0);
        Expect.yes("it boiled in the last minute", house.isBoiling(0));
        Expect.thrown("never again, by division", type, () -> house.minutesUntilBoiling(0));
        Expect.thrown("never again, by minutes", type, () -> house.minutesUntilBoilingByMinutes(0));
    }
}
