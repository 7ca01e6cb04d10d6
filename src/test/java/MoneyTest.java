import java.util.NoSuchElementException;

/** Promises 9 to 11, 14, 38 to 47, 53 and 56: prices, sales and the ledger. */
public final class MoneyTest {
    public static void main(String[] args) {
        testSellSteam();
        testSellSteamRefused();
        testPrices();
        testPricesRefused();
        testCloseNight();
        testFullLedger();
        testNightByIncome();
        testGreatestIncome();
        testGreatestIncomeRefused();
        testTotals();
        testFormatLedger();
        Expect.end();
    }

    /** A house with 4 litres of steam. */
    private static TeaHouse steamHouse() {
        TeaHouse house = new TeaHouse();
        Words.run(house, "kettle 16;fill 0 16;burner 0 5;minutes 20");
        return house;
    }

    /** A house whose nights had these incomes in quarters, from steam at 2 a litre, so at most 16 quarters a fill. */
    private static TeaHouse houseWithNights(int... quarters) {
        TeaHouse house = new TeaHouse();
        Words.run(house, "kettle 16;burner 0 5");
        for (int income : quarters) {
            if (income > 0) {
                house.fill(0, 16);
                house.pass(30);
                house.sellSteam(income);
            }
            house.closeNight();
        }
        return house;
    }

    private static void testSellSteam() {
        TeaHouse house = steamHouse();
        Expect.same("steam", house.steam(), 4.0);
        Expect.same("one eighth at 2", house.sellSteam(1), 0.25);
        house.setSteamPrice(3);
        Expect.same("three eighths at 3", house.sellSteam(3), 1.125);
        Expect.same("steam left", house.steam(), 3.5);
        Expect.same("income", house.income(), 1.375);
        Expect.same("all that is left", house.sellSteam(28), 10.5);
        Expect.same("nothing is left", house.steam(), 0.0);
        Expect.same("boiledTotal", house.boiledTotal(), 4.0);
        Expect.yes("balanced", house.isBalanced());
    }

    private static void testSellSteamRefused() {
        TeaHouse house = steamHouse();
        for (int eighths : new int[] {0, -1, 81, Integer.MIN_VALUE, Integer.MAX_VALUE}) {
            Expect.thrown("sellSteam(" + eighths + ")", IllegalArgumentException.class, () -> house.sellSteam(eighths));
        }
        Expect.thrown("an eighth too much", IllegalStateException.class, () -> house.sellSteam(33));
        Expect.thrown("the most that can be sold", IllegalStateException.class, () -> house.sellSteam(80));
        for (int i = 0; i < 2; i++) {
            house.fill(0, 16);
            house.pass(20);
        }
        Expect.same("the most at once", house.sellSteam(80), 20.0);
        Expect.same("steam left", house.steam(), 2.0);
    }

    private static void testPrices() {
        TeaHouse house = new TeaHouse();
        Expect.same("the first cup price", house.setCupPrice(1), 1.5);
        Expect.same("the least cup price", house.cupPrice(), 0.125);
        Expect.same("the previous cup price", house.setCupPrice(80), 0.125);
        Expect.same("the greatest cup price", house.cupPrice(), 10.0);
        Expect.same("the first steam price", house.setSteamPrice(1), 2.0);
        Expect.same("the least steam price", house.steamPrice(), 1.0);
        Expect.same("the previous steam price", house.setSteamPrice(80), 1.0);
        Expect.same("the greatest steam price", house.steamPrice(), 80.0);
    }

    private static void testPricesRefused() {
        TeaHouse house = new TeaHouse();
        for (int price : new int[] {0, -1, 81, Integer.MIN_VALUE, Integer.MAX_VALUE}) {
            Expect.thrown("setCupPrice(" + price + ")", IllegalArgumentException.class, () -> house.setCupPrice(price));
            Expect.thrown("setSteamPrice(" + price + ")", IllegalArgumentException.class,
                    () -> house.setSteamPrice(price));
        }
    }

    private static void testCloseNight() {
        TeaHouse house = steamHouse();
        house.sellSteam(5);
        Expect.same("the first night", house.closeNight(), 1.25);
        Expect.same("income starts with 0", house.income(), 0.0);
        Expect.same("nightCount", house.nightCount(), 1);
        Expect.same("a night without sales", house.closeNight(), 0.0);
        house.sellSteam(2);
        Expect.same("nightIncome(0)", house.nightIncome(0), 1.25);
        Expect.same("nightIncome(1)", house.nightIncome(1), 0.0);
        for (int night : new int[] {-1, 2, 13, 14, Integer.MIN_VALUE, Integer.MAX_VALUE}) {
            Expect.thrown("nightIncome(" + night + ")", IndexOutOfBoundsException.class,
                    () -> house.nightIncome(night));
        }
        Expect.same("the steam stays", house.steam(), 3.125);
    }

    private static void testFullLedger() {
        TeaHouse house = steamHouse();
        for (int night = 0; night < 14; night++) {
            Expect.same("nights before", house.nightCount(), night);
            house.sellSteam(1 + night % 3);
            Expect.same("night " + night, house.closeNight(), 0.25 + 0.25 * (night % 3));
        }
        Expect.same("nightCount", house.nightCount(), 14);
        Expect.same("the last night", house.nightIncome(13), 0.5);
        house.sellSteam(1);
        Expect.thrown("a fifteenth night", IllegalStateException.class, house::closeNight);
        Expect.same("the income stays", house.income(), 0.25);
        Expect.same("all nights", house.greatestIncome(14), 6.75);
        Expect.same("all nights by sums", house.greatestIncomeBySums(14), 6.75);
        Expect.same("total", house.totalIncome(), 7.0);
        Expect.yes("balanced", house.isBalanced());
    }

    private static void testNightByIncome() {
        TeaHouse house = houseWithNights(3, 7, 0, 7, 1, 7, 3);
        int[] due = {1, 3, 5, 0, 6, 4, 2};
        for (int rank = 0; rank < due.length; rank++) {
            Expect.same("nightByIncome(" + rank + ")", house.nightByIncome(rank), due[rank]);
        }
        for (int rank : new int[] {-1, 7, 14, Integer.MIN_VALUE, Integer.MAX_VALUE}) {
            Expect.thrown("nightByIncome(" + rank + ")", NoSuchElementException.class, () -> house.nightByIncome(rank));
        }
        Expect.same("the ledger does not change", Words.ledger(house), "6 14 0 14 2 14 6");
        Expect.thrown("no nights", NoSuchElementException.class, () -> new TeaHouse().nightByIncome(0));
    }

    private static void testGreatestIncome() {
        TeaHouse house = houseWithNights(5, 1, 4, 9, 0, 2, 8);
        double[] due = {2.25, 3.25, 3.5, 4.75, 5.75, 6.0, 7.25};
        for (int nights = 1; nights <= due.length; nights++) {
            Expect.same("greatestIncome(" + nights + ")", house.greatestIncome(nights), due[nights - 1]);
            Expect.same("greatestIncomeBySums(" + nights + ")", house.greatestIncomeBySums(nights),
                    due[nights - 1]);
        }
        house.sellSteam(15);
        Expect.same("the present night does not count", house.greatestIncome(1), 2.25);
        Expect.same("nor by sums", house.greatestIncomeBySums(1), 2.25);
        TeaHouse poor = houseWithNights(0, 0);
        Expect.same("nothing at all", poor.greatestIncome(2), 0.0);
        Expect.same("nothing at all by sums", poor.greatestIncomeBySums(2), 0.0);
    }

    private static void testGreatestIncomeRefused() {
        for (TeaHouse house : new TeaHouse[] {new TeaHouse(), houseWithNights(1, 2)}) {
            for (int nights : new int[] {0, -1, 15, Integer.MIN_VALUE, Integer.MAX_VALUE}) {
                Expect.thrown("greatestIncome(" + nights + ")", IllegalArgumentException.class,
                        () -> house.greatestIncome(nights));
                Expect.thrown("greatestIncomeBySums(" + nights + ")", IllegalArgumentException.class,
                        () -> house.greatestIncomeBySums(nights));
            }
            for (int nights : new int[] {house.nightCount() + 1, 14}) {
                Expect.thrown("greatestIncome(" + nights + ")", NoSuchElementException.class,
                        () -> house.greatestIncome(nights));
                Expect.thrown("greatestIncomeBySums(" + nights + ")", NoSuchElementException.class,
                        () -> house.greatestIncomeBySums(nights));
            }
        }
    }

    private static void testTotals() {
        TeaHouse house = new TeaHouse();
        Words.run(house, "kettle 16;fill 0 16;burner 0 5;minutes 13;order 0 3 60 1");
        house.sellSteam(3);
        house.closeNight();
        house.serveNext();
        Expect.same("income", house.income(), 4.5);
        Expect.same("totalIncome", house.totalIncome(), 5.25);
        Expect.same("totalIncomeBySales", house.totalIncomeBySales(), 5.25);
        house.closeNight();
        Expect.same("totalIncome of closed nights", house.totalIncome(), 5.25);
        Expect.same("totalIncomeBySales of closed nights", house.totalIncomeBySales(), 5.25);
        Expect.yes("balanced", house.isBalanced());
    }

    private static void testFormatLedger() {
        TeaHouse house = steamHouse();
        Expect.same("an empty ledger", Words.ledger(house), "");
        house.closeNight();
        Expect.same("one night", Words.ledger(house), "0");
        house.setSteamPrice(80);
        house.sellSteam(30);
        Expect.same("the present night is not in it", Words.ledger(house), "0");
        house.closeNight();
        Expect.same("two nights", Words.ledger(house), "0 2400");
    }
}
