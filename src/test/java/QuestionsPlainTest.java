/** The sentences of promises 15 to 57 that name no boundary, with ordinary inputs. */
public final class QuestionsPlainTest {
    public static void main(String[] args) {
        Expect.allOf(QuestionsPlainTest.class);
    }

    /**
     * Three kettles: one of 2 litres with 1.25 litres at 41.5 degrees on level 4, an empty one of 0.75 litres on level
     * 2, and one of 4 litres with 2.375 litres that boils on level 5.
     */
    private static TeaHouse threeKettles() {
        return Houses.after("kettle 8;kettle 3;kettle 16;fill 2 16;burner 2 5;minutes 9",
                "fill 0 5;burner 0 4;burner 1 2;minutes 3", "fill 2 1;minutes 1", "burner 0 0;minutes 1;burner 0 4");
    }

    /** Two orders wait: 1 of 4 cups at table 2, and before it 3 of 2 cups at table 7; 0 was cancelled, 2 was served. */
    private static TeaHouse twoOrders() {
        TeaHouse house = Houses.hot(20);
        Words.run(house, "order 1 1 60 5;order 2 4 90 5;order 3 3 70 8;cancel 0");
        Words.run(house, "serve;order 7 2 95 6");
        return house;
    }

    /** Nights with the incomes 1.5, 4, 0.5 and 2.25, and 0.75 in the present one. */
    private static TeaHouse fourNights() {
        TeaHouse house = Houses.withSteam(40);
        for (int quarters : new int[] {6, 16, 2, 9}) {
            house.sellSteam(quarters);
            house.closeNight();
        }
        house.sellSteam(3);
        return house;
    }

    /** Promise 15: Returns the number. */
    private static void testThreeKettles() {
        Expect.same("kettleCount", threeKettles().kettleCount(), 3);
        Expect.same("kettleCount of another", Houses.hot(20).kettleCount(), 1);
    }

    /** Promise 16: Returns the capacity of a kettle. Returns the capacity in litres. */
    private static void testCapacitiesInLitres() {
        TeaHouse house = threeKettles();
        Expect.same("8 quarters", house.capacity(0), 2.0);
        Expect.same("3 quarters", house.capacity(1), 0.75);
        Expect.same("16 quarters", house.capacity(2), 4.0);
    }

    /** Promise 17: Returns the volume of water in a kettle. Returns the volume in litres. */
    private static void testVolumesInLitres() {
        TeaHouse house = threeKettles();
        Expect.same("5 quarters", house.volume(0), 1.25);
        Expect.same("nothing", house.volume(1), 0.0);
        Expect.same("17 quarters, of which 15 eighths have boiled", house.volume(2), 2.375);
    }

    /** Promise 18: Returns the temperature of a kettle. Returns the temperature in degrees. */
    private static void testTemperaturesInDegrees() {
        TeaHouse house = threeKettles();
        Expect.same("warm", house.temperature(0), 41.5);
        Expect.same("empty", house.temperature(1), 20.0);
        Expect.same("boiling", house.temperature(2), 100.0);
    }

    /** Promise 19: Returns the bits. */
    private static void testBitsOfThreeTemperatures() {
        TeaHouse house = threeKettles();
        Expect.same("of 41.5", house.temperatureBits(0), 0x42260000);
        Expect.same("of 20", house.temperatureBits(1), 0x41a00000);
        Expect.same("of 100", house.temperatureBits(2), 0x42c80000);
    }

    /** Promise 20: Returns the level of the burner of a kettle. Returns the level. */
    private static void testLevelsOfThreeBurners() {
        TeaHouse house = threeKettles();
        Expect.same("the first", house.burner(0), 4);
        Expect.same("the second", house.burner(1), 2);
        Expect.same("the third", house.burner(2), 5);
    }

    /** Promise 21: Returns true if it did. */
    private static void testOneOfThreeBoils() {
        TeaHouse house = threeKettles();
        Expect.no("the warm one", house.isBoiling(0));
        Expect.no("the empty one", house.isBoiling(1));
        Expect.yes("the hot one", house.isBoiling(2));
    }

    /** Promise 23: Returns the number of minutes. */
    private static void testMinutesOnACopy() {
        TeaHouse house = threeKettles();
        // 58.5 degrees are missing, at 5.5 a minute.
        Expect.same("the warm one", house.minutesUntilBoilingByMinutes(0), 11);
        Expect.same("the hot one", house.minutesUntilBoilingByMinutes(2), 1);
        Expect.same("asked again", house.minutesUntilBoilingByMinutes(0), 11);
    }

    /** Promise 24: Returns the number of the kettle. */
    private static void testKettlesByTemperature() {
        TeaHouse house = threeKettles();
        Expect.same("the hottest", house.kettleByTemperature(0), 2);
        Expect.same("the second", house.kettleByTemperature(1), 0);
        Expect.same("the coldest", house.kettleByTemperature(2), 1);
    }

    /** Promise 25: Returns the number. */
    private static void testTwoOrdersWait() {
        Expect.same("waitingCount", twoOrders().waitingCount(), 2);
    }

    /** Promise 26: Returns a waiting order by its position in the order of serving. Returns the number of the order. */
    private static void testOrdersByTheirPosition() {
        TeaHouse house = twoOrders();
        Expect.same("the higher priority", house.orderAt(0), 3);
        Expect.same("the lower priority", house.orderAt(1), 1);
    }

    /** Promise 27: Returns the position of a waiting order in the order of serving. */
    private static void testPositionsOfOrders() {
        TeaHouse house = twoOrders();
        Expect.same("the higher priority", house.positionOf(3), 0);
        Expect.same("the lower priority", house.positionOf(1), 1);
    }

    /** Promise 28: Returns the number of cups of a waiting order. */
    private static void testCupsOfOrders() {
        TeaHouse house = twoOrders();
        Expect.same("order 1", house.cupsOf(1), 4);
        Expect.same("order 3", house.cupsOf(3), 2);
    }

    /** Promise 29: Returns the price. */
    private static void testPricesOfOrders() {
        TeaHouse house = twoOrders();
        Expect.same("4 cups", house.priceOf(1), 6.0);
        Expect.same("2 cups", house.priceOf(3), 3.0);
        Expect.same("asking costs nothing", house.income(), 4.5);
    }

    /** Promise 30: Returns the number of the kettle. */
    private static void testKettlesForOrders() {
        TeaHouse house = threeKettles();
        Words.run(house, "minutes 8;order 1 3 60 5;order 2 2 99 5");
        Expect.same("85.5 degrees", house.temperature(0), 85.5);
        Expect.same("the hotter one has boiled away", house.volume(2), 0.0);
        Expect.same("the warm one", house.kettleFor(0), 0);
        house.fill(2, 8);
        Words.run(house, "burner 0 0;minutes 13");
        Expect.same("the boiling one", house.kettleFor(1), 2);
    }

    /** Promise 32: Returns true if it would. */
    private static void testServeNextWould() {
        TeaHouse house = twoOrders();
        Expect.yes("the first can be served", house.canServe());
        Expect.same("asking serves nobody", house.waitingCount(), 2);
        house.pass(15);
        Expect.no("92.5 degrees are too cold for 95", house.canServe());
        house.cancel(3);
        Expect.yes("but not for 90", house.canServe());
    }

    /** Promise 33: Returns the number. */
    private static void testSeventeenCleanCups() {
        Expect.same("cleanCups", twoOrders().cleanCups(), 17);
        Expect.same("cleanCups of another", Houses.withUsedCups(8).cleanCups(), 12);
    }

    /** Promise 34: Returns the volume in litres. */
    private static void testSteamInLitres() {
        Expect.same("steam", Houses.withSteam(11).steam(), 1.375);
        Expect.same("what was not sold of 40 eighths", fourNights().steam(), 0.5);
    }

    /** Promise 35: Returns the volume in litres. */
    private static void testBoiledLitres() {
        Expect.same("boiledTotal", Houses.withSteam(11).boiledTotal(), 1.375);
        Expect.same("sold or not", fourNights().boiledTotal(), 5.0);
    }

    /** Promise 36: Returns the volume in litres. */
    private static void testPouredLitres() {
        Expect.same("three cups", twoOrders().pouredTotal(), 0.75);
        Expect.same("eleven cups", Houses.withUsedCups(11).pouredTotal(), 2.75);
    }

    /** Promise 37: Returns the volume in litres. */
    private static void testFilledLitres() {
        Expect.same("22 quarters", threeKettles().filledTotal(), 5.5);
        Expect.same("20 quarters", fourNights().filledTotal(), 5.0);
    }

    /** Promise 38: Returns the price. */
    private static void testThePriceOfACup() {
        Expect.same("22 eighths", Houses.after("cup 22;litre 9").cupPrice(), 2.75);
    }

    /** Promise 39: Returns the price. */
    private static void testThePriceOfALitre() {
        Expect.same("9", Houses.after("cup 22;litre 9").steamPrice(), 9.0);
    }

    /** Promise 40: Returns the income. */
    private static void testThePresentIncome() {
        Expect.same("steam of the present night", fourNights().income(), 0.75);
        Expect.same("three cups", twoOrders().income(), 4.5);
    }

    /** Promise 41: Returns the number of nights in the ledger. */
    private static void testFourNights() {
        Expect.same("nightCount", fourNights().nightCount(), 4);
    }

    /** Promise 42: Returns the income of a night in the ledger. Returns the income. */
    private static void testIncomesOfNights() {
        TeaHouse house = fourNights();
        Expect.same("night 0", house.nightIncome(0), 1.5);
        Expect.same("night 1", house.nightIncome(1), 4.0);
        Expect.same("night 2", house.nightIncome(2), 0.5);
        Expect.same("night 3", house.nightIncome(3), 2.25);
    }

    /** Promise 43: Returns the number of the night. */
    private static void testNightsByIncome() {
        TeaHouse house = fourNights();
        Expect.same("the best", house.nightByIncome(0), 1);
        Expect.same("the second", house.nightByIncome(1), 3);
        Expect.same("the third", house.nightByIncome(2), 0);
        Expect.same("the worst", house.nightByIncome(3), 2);
    }

    /** Promise 44: Returns the sum. */
    private static void testGreatestSums() {
        TeaHouse house = fourNights();
        Expect.same("of one night", house.greatestIncome(1), 4.0);
        Expect.same("of two nights", house.greatestIncome(2), 5.5);
        Expect.same("of three nights", house.greatestIncome(3), 6.75);
    }

    /** Promise 45: Returns the sum. */
    private static void testGreatestSumsByDifferences() {
        TeaHouse house = fourNights();
        Expect.same("of one night", house.greatestIncomeBySums(1), 4.0);
        Expect.same("of two nights", house.greatestIncomeBySums(2), 5.5);
        Expect.same("of three nights", house.greatestIncomeBySums(3), 6.75);
    }

    /** Promise 46: Returns the sum. */
    private static void testTheTotal() {
        Expect.same("four nights and the present one", fourNights().totalIncome(), 9.0);
    }

    /** Promise 47: Returns the sum. */
    private static void testTheTotalOfSales() {
        Expect.same("steam", fourNights().totalIncomeBySales(), 9.0);
        TeaHouse house = twoOrders();
        house.sellSteam(1);
        Expect.same("three cups and an eighth of steam", house.totalIncomeBySales(), 4.75);
    }

    /** Promise 48: Returns the number. */
    private static void testServedOrders() {
        TeaHouse house = twoOrders();
        Expect.same("one", house.servedOrders(), 1);
        house.serveNext();
        Expect.same("two", house.servedOrders(), 2);
    }

    /** Two whistles were heard and three were lost. */
    private static TeaHouse fiveWhistles() {
        return Houses.after("kettle 16;fill 0 16;burner 0 5;minutes 12", "burner 0 0;minutes 1;burner 0 5;minutes 1",
                "attend 0;burner 0 0;minutes 1;burner 0 5;minutes 1", "burner 0 0;minutes 1;burner 0 1;minutes 1",
                "burner 0 0;minutes 1;burner 0 2;minutes 3");
    }

    /** Promise 49: Returns the number. */
    private static void testTwoHeardWhistles() {
        Expect.same("whistlesHeard", fiveWhistles().whistlesHeard(), 2);
    }

    /** Promise 50: Returns the number. */
    private static void testThreeLostWhistles() {
        Expect.same("whistlesLost", fiveWhistles().whistlesLost(), 3);
    }

    /** Promise 51: Returns the mean in degrees. */
    private static void testTheMeanInDegrees() {
        Expect.same("of three kettles", threeKettles().meanTemperature(), 161.5 / 3.0);
    }

    /** Promise 52: Returns the share. */
    private static void testTheShareOfLostWhistles() {
        Expect.same("three of five", fiveWhistles().lostShare(), 0.6f);
    }

    /** Promise 53: Returns true if all these checks succeed. */
    private static void testAllChecksSucceed() {
        Expect.yes("three kettles", threeKettles().isBalanced());
        Expect.yes("two orders", twoOrders().isBalanced());
        Expect.yes("four nights", fourNights().isBalanced());
        Expect.yes("five whistles", fiveWhistles().isBalanced());
    }

    /** Promise 57: Returns the character. */
    private static void testCharactersOfTheLine() {
        TeaHouse house = fourNights();
        Expect.same("the length", house.formatLedger(), 10);
        String due = "12 32 4 18";
        for (int index = 0; index < due.length(); index++) {
            Expect.same("character " + index, house.lineChar(index), due.charAt(index));
        }
    }
}
