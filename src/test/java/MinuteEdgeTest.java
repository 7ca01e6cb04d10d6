/** The boundaries that the terms name for minutes and sales. */
public final class MinuteEdgeTest {
    public static void main(String[] args) {
        Expect.allOf(MinuteEdgeTest.class);
    }

    private static TeaHouse boilingSoon(int eighths, int level) {
        TeaHouse house = Houses.hot(eighths);
        house.setBurner(0, level);
        return house;
    }

    /**
     * Terms: When a minute passes, the counter increases by 1, and then the following happens for every kettle, in
     * the order of the numbers.
     */
    private static void testNoKettleAndFourKettles() {
        Expect.same("no kettle", new TeaHouse().pass(1), 0);
        TeaHouse house = Houses.withKettles(4);
        for (int kettle = 0; kettle < 4; kettle++) {
            house.fill(kettle, 4);
            house.setBurner(kettle, 5);
        }
        house.pass(1);
        for (int kettle = 0; kettle < 4; kettle++) {
            Expect.same("kettle " + kettle, house.temperature(kettle), 27.0);
        }
        Expect.same("all four whistle", house.pass(11), 4);
    }

    /**
     * Terms: First, if the volume is 0, the temperature becomes 20 degrees; otherwise it increases by 1.5 degrees
     * times the level of the burner and decreases by 0.5 degrees, but the result is at least 20 and at most 100
     * degrees.
     */
    private static void testTheEndsOfTheTemperature() {
        TeaHouse empty = Houses.after("kettle 16;burner 0 5;minutes 1");
        Expect.same("an empty kettle on fire", empty.temperature(0), 20.0);
        TeaHouse poured = boilingSoon(2, 5);
        poured.order(0, 1, 60, 1);
        poured.serveNext();
        poured.pass(1);
        Expect.same("a kettle that was emptied", poured.temperature(0), 20.0);
        TeaHouse cold = Houses.after("kettle 16;fill 0 1;minutes 1");
        Expect.same("no colder than 20", cold.temperature(0), 20.0);
        TeaHouse cooling = Houses.after("kettle 16;fill 0 1;burner 0 1;minutes 1;burner 0 0");
        cooling.pass(1);
        Expect.same("half a degree less", cooling.temperature(0), 20.5);
        cooling.pass(1);
        Expect.same("20 exactly", cooling.temperature(0), 20.0);
        cooling.pass(1);
        Expect.same("and no less", cooling.temperature(0), 20.0);
        TeaHouse exactly = Houses.after("kettle 16;fill 0 16;burner 0 1;minutes 79");
        Expect.same("a degree less than 100", exactly.temperature(0), 99.0);
        exactly.pass(1);
        Expect.same("100 exactly", exactly.temperature(0), 100.0);
        exactly.pass(1);
        Expect.same("and no more", exactly.temperature(0), 100.0);
        exactly.setBurner(0, 0);
        exactly.pass(1);
        exactly.setBurner(0, 5);
        exactly.pass(1);
        Expect.same("7 more than 99.5", exactly.temperature(0), 100.0);
    }

    /**
     * Terms: Second, the kettle boils in this minute if its volume is greater than 0, its temperature is 100 degrees,
     * and the level of its burner is greater than 0.
     */
    private static void testBarelyBoiling() {
        TeaHouse last = boilingSoon(1, 1);
        last.pass(1);
        Expect.yes("an eighth boils", last.isBoiling(0));
        last.pass(1);
        Expect.no("nothing does not boil", last.isBoiling(0));
        TeaHouse colder = Houses.hot(31);
        colder.pass(4);
        colder.setBurner(0, 1);
        colder.pass(1);
        Expect.same("99 degrees", colder.temperature(0), 99.0);
        Expect.no("99 degrees do not boil", colder.isBoiling(0));
        colder.pass(1);
        Expect.yes("100 degrees boil", colder.isBoiling(0));
        TeaHouse half = Houses.hot(31);
        half.pass(3);
        half.setBurner(0, 1);
        half.pass(1);
        Expect.same("99.5 degrees", half.temperature(0), 99.5);
        Expect.no("99.5 degrees do not boil", half.isBoiling(0));
        TeaHouse off = boilingSoon(31, 0);
        off.pass(1);
        Expect.no("level 0 does not boil", off.isBoiling(0));
        TeaHouse least = boilingSoon(31, 1);
        least.pass(1);
        Expect.yes("level 1 boils", least.isBoiling(0));
    }

    /**
     * Terms: If it boils, 0.125 litres times the level, but not more than its volume, leave the kettle as steam,
     * which is collected.
     */
    private static void testTheLastWaterLeaves() {
        for (int level = 1; level <= 5; level++) {
            for (int eighths = Math.max(1, level - 1); eighths <= level + 1; eighths++) {
                TeaHouse house = boilingSoon(eighths, level);
                double before = house.steam();
                house.pass(1);
                double boiled = Math.min(level, eighths) * 0.125;
                String what = eighths + " eighths at level " + level;
                Expect.same(what + ": steam", house.steam(), before + boiled);
                Expect.same(what + ": water", house.volume(0), eighths * 0.125 - boiled);
                Expect.yes(what + ": balanced", house.isBalanced());
            }
        }
    }

    /** Terms: Third, the kettle whistles if it boils in this minute and did not boil in the minute before. */
    private static void testTheFirstMinuteOfBoilingWhistles() {
        TeaHouse house = Houses.after("kettle 16;fill 0 16;burner 0 5");
        Expect.same("the minute before", house.pass(11), 0);
        Expect.same("the first minute", house.pass(1), 1);
        Expect.same("the second minute", house.pass(1), 0);
        house.setBurner(0, 0);
        Expect.same("a minute's pause", house.pass(1), 0);
        house.setBurner(0, 5);
        Expect.same("the first minute after the pause", house.pass(1), 1);
        Expect.same("until it is empty and after", house.pass(120), 0);
        house.fill(0, 1);
        Expect.same("filled again", house.pass(12), 1);
    }

    /** Terms: The whistle is heard if an attendant is present, and lost otherwise. */
    private static void testTheAttendantLeavesAMinuteEarly() {
        TeaHouse absent = Houses.after("kettle 16;fill 0 16;burner 0 5;minutes 11");
        absent.setAttendant(false);
        absent.pass(1);
        absent.setAttendant(true);
        absent.pass(1);
        Expect.same("absent in the very minute: heard", absent.whistlesHeard(), 0);
        Expect.same("absent in the very minute: lost", absent.whistlesLost(), 1);
        TeaHouse present = Houses.after("kettle 16;fill 0 16;burner 0 5;attend 0;minutes 11;attend 1");
        present.pass(1);
        present.setAttendant(false);
        present.pass(1);
        Expect.same("present in the very minute: heard", present.whistlesHeard(), 1);
        Expect.same("present in the very minute: lost", present.whistlesLost(), 0);
    }

    /**
     * Terms: A kettle that was added or whose burner was set since the last minute is treated like any other; before
     * its first minute it did not boil.
     */
    private static void testNewKettlesAndTurnedBurners() {
        TeaHouse house = Houses.after("kettle 16;fill 0 16;burner 0 5;minutes 12");
        int added = house.addKettle(4);
        Expect.no("a new kettle did not boil", house.isBoiling(added));
        house.fill(added, 4);
        house.setBurner(added, 5);
        Expect.no("nor after filling and firing", house.isBoiling(added));
        house.setBurner(0, 0);
        house.setBurner(0, 1);
        Expect.same("the turned burner does not whistle again", house.pass(1), 0);
        Expect.same("the new kettle warms like any other", house.temperature(added), 27.0);
        Expect.same("the turned burner boils at its level", house.steam(), 0.75);
        Expect.same("the new kettle whistles first when it boils", house.pass(11), 1);
    }

    /** Terms: The price of an order is its number of cups times the price of a cup. */
    private static void testTheLeastAndTheGreatestPriceOfAnOrder() {
        TeaHouse house = Houses.hot(31);
        house.order(0, 1, 60, 9);
        house.order(0, 6, 60, 1);
        house.setCupPrice(1);
        Expect.same("the least", house.priceOf(0), 0.125);
        house.serveNext();
        Expect.same("the least is paid", house.income(), 0.125);
        house.setCupPrice(80);
        Expect.same("the greatest", house.priceOf(1), 60.0);
        house.serveNext();
        Expect.same("the greatest is paid", house.income(), 60.125);
    }

    /** Terms: The price of steam is its volume times the price of a litre. */
    private static void testTheLeastAndTheGreatestPriceOfSteam() {
        TeaHouse house = Houses.withSteam(81);
        house.setSteamPrice(1);
        Expect.same("the least", house.sellSteam(1), 0.125);
        house.setSteamPrice(80);
        Expect.same("the greatest", house.sellSteam(80), 800.0);
        Expect.same("both are paid", house.income(), 800.125);
    }

    /** Terms: Initially a cup costs 1.5, a litre of steam costs 2, and an attendant is present. */
    private static void testInitialPrices() {
        Expect.same("a cup", new TeaHouse().cupPrice(), 1.5);
        Expect.same("a litre", new TeaHouse().steamPrice(), 2.0);
        Expect.yes("an attendant", new TeaHouse().setAttendant(true));
    }

    /** Terms: The income of the present night is the sum of all prices paid since the last night was closed. */
    private static void testIncomeSinceTheLastNight() {
        TeaHouse house = Houses.withSteam(8);
        Expect.same("nothing was paid", house.income(), 0.0);
        house.sellSteam(3);
        house.sellSteam(2);
        Expect.same("before the first night", house.income(), 1.25);
        house.closeNight();
        Expect.same("nothing was paid since", house.income(), 0.0);
        house.sellSteam(1);
        Expect.same("since the first night", house.income(), 0.25);
    }

    /**
     * Terms: When a night is closed, its income is entered into the ledger, and the income of the next night starts
     * with 0.
     */
    private static void testTheNextNightStartsWith0() {
        TeaHouse house = Houses.withSteam(8);
        house.sellSteam(5);
        house.closeNight();
        Expect.same("entered", house.nightIncome(0), 1.25);
        Expect.same("the next", house.income(), 0.0);
        house.closeNight();
        Expect.same("entered without sales", house.nightIncome(1), 0.0);
        Expect.same("the first stays", house.nightIncome(0), 1.25);
    }

    /** Terms: The ledger holds at most 14 nights, numbered from 0. */
    private static void testFourteenNightsFrom0() {
        TeaHouse house = Houses.withSteam(14);
        for (int night = 0; night < 14; night++) {
            Expect.same("nights before", house.nightCount(), night);
            house.setSteamPrice(night + 1);
            house.sellSteam(1);
            house.closeNight();
        }
        for (int night = 0; night < 14; night++) {
            Expect.same("night " + night, house.nightIncome(night), (night + 1) * 0.125);
        }
        Expect.thrown("a fifteenth", IllegalStateException.class, house::closeNight);
        Expect.same("still fourteen", house.nightCount(), 14);
    }
}
