import java.util.NoSuchElementException;
import java.util.function.Supplier;

/** The boundaries of promises 34 to 50, 52 and 53: steam, totals, prices, nights and whistles. */
public final class MoneyEdgeTest {
    private static final Class<NoSuchElementException> NO_ELEMENT = NoSuchElementException.class;
    private static final Class<IllegalArgumentException> OUT_OF_RANGE = IllegalArgumentException.class;

    public static void main(String[] args) {
        Expect.allOf(MoneyEdgeTest.class);
    }

    /** Nights with these incomes in quarters: so many eighths of steam, sold at 2 a litre. */
    private static TeaHouse withIncomes(int... quarters) {
        TeaHouse house = Houses.withSteam(128);
        for (int income : quarters) {
            if (income > 0) {
                house.sellSteam(income);
            }
            house.closeNight();
        }
        return house;
    }

    /** Promise 34: Returns the volume of the collected steam that has not been sold. */
    private static void testSteamFromNoneToNone() {
        Expect.same("at first", new TeaHouse().steam(), 0.0);
        TeaHouse house = Houses.withSteam(1);
        Expect.same("the least", house.steam(), 0.125);
        house.sellSteam(1);
        Expect.same("all is sold", house.steam(), 0.0);
        Expect.same("much", Houses.withSteam(128).steam(), 16.0);
    }

    /** Promise 35: Returns the volume of all steam that has been boiled so far. */
    private static void testBoiledSoFar() {
        Expect.same("at first", new TeaHouse().boiledTotal(), 0.0);
        TeaHouse house = Houses.withSteam(1);
        Expect.same("the least", house.boiledTotal(), 0.125);
        house.sellSteam(1);
        Expect.same("sold steam was boiled too", house.boiledTotal(), 0.125);
        TeaHouse undone = Houses.after("kettle 16;fill 0 16;burner 0 1;minutes 79");
        undone.pass(1);
        undone.undo();
        Expect.same("undone", undone.boiledTotal(), 0.0);
    }

    /** Promise 36: Returns the volume of water that has been poured into cups so far. */
    private static void testPouredSoFar() {
        Expect.same("at first", new TeaHouse().pouredTotal(), 0.0);
        Expect.same("one cup", Houses.withUsedCups(1).pouredTotal(), 0.25);
        TeaHouse house = Houses.withUsedCups(20);
        Expect.same("twenty cups", house.pouredTotal(), 5.0);
        house.wash(20);
        Expect.same("washing pours nothing back", house.pouredTotal(), 5.0);
        house.undo();
        house.undo();
        Expect.same("undone", house.pouredTotal(), 4.5);
    }

    /** Promise 37: Returns the volume of water that has been added to kettles so far. */
    private static void testFilledSoFar() {
        TeaHouse house = Houses.withKettles(4);
        Expect.same("at first", house.filledTotal(), 0.0);
        house.fill(0, 1);
        Expect.same("the least", house.filledTotal(), 0.25);
        house.fill(3, 16);
        Expect.same("the most at once", house.filledTotal(), 4.25);
        Expect.thrown("too much", IllegalStateException.class, () -> house.fill(3, 1));
        Expect.same("nothing is added when refused", house.filledTotal(), 4.25);
        house.setBurner(0, 1);
        house.pass(80);
        Expect.same("boiling takes nothing back", house.filledTotal(), 4.25);
        house.undo();
        house.undo();
        house.undo();
        Expect.same("undone", house.filledTotal(), 0.25);
    }

    /** Promise 38: Returns the price of a cup. */
    private static void testCupPriceFromFirstToGreatest() {
        TeaHouse house = new TeaHouse();
        Expect.same("at first", house.cupPrice(), 1.5);
        house.setCupPrice(1);
        Expect.same("the least", house.cupPrice(), 0.125);
        house.setCupPrice(80);
        Expect.same("the greatest", house.cupPrice(), 10.0);
        Expect.same("steam costs what it did", house.steamPrice(), 2.0);
    }

    /** Promise 39: Returns the price of a litre of steam. */
    private static void testSteamPriceFromFirstToGreatest() {
        TeaHouse house = new TeaHouse();
        Expect.same("at first", house.steamPrice(), 2.0);
        house.setSteamPrice(1);
        Expect.same("the least", house.steamPrice(), 1.0);
        house.setSteamPrice(80);
        Expect.same("the greatest", house.steamPrice(), 80.0);
        Expect.same("a cup costs what it did", house.cupPrice(), 1.5);
    }

    /** Promise 40: Returns the income of the present night. */
    private static void testIncomeFromNone() {
        TeaHouse house = Houses.withSteam(81);
        Expect.same("at first", house.income(), 0.0);
        house.setSteamPrice(1);
        house.sellSteam(1);
        Expect.same("the least", house.income(), 0.125);
        house.setSteamPrice(80);
        house.sellSteam(80);
        Expect.same("the most at once", house.income(), 800.125);
        house.closeNight();
        Expect.same("of the next night", house.income(), 0.0);
    }

    /** Promise 41: Returns the number, 0 to 14. */
    private static void testNightsFrom0To14() {
        for (int count = 0; count <= 14; count++) {
            Expect.same("nightCount", Houses.withNights(count).nightCount(), count);
        }
        TeaHouse house = Houses.withNights(14);
        Expect.thrown("a fifteenth", IllegalStateException.class, house::closeNight);
        Expect.same("after a refused fifteenth", house.nightCount(), 14);
    }

    /** Promise 42: `night`: the number of the night */
    private static void testTheFirstAndTheLastNight() {
        TeaHouse house = withIncomes(1, 0, 0, 0, 0, 0, 0, 0, 0, 0, 0, 0, 5, 9);
        Expect.same("the first", house.nightIncome(0), 0.25);
        Expect.same("the last but one", house.nightIncome(12), 1.25);
        Expect.same("the last", house.nightIncome(13), 2.25);
        Expect.same("the only one", withIncomes(3).nightIncome(0), 0.75);
    }

    /** Promise 42: Throws `IndexOutOfBoundsException` if the ledger has no such night */
    private static void testNoSuchNight() {
        for (int count : new int[] {0, 1, 2, 13, 14}) {
            Expect.refusedEach("nightIncome", () -> Houses.withNights(count), IndexOutOfBoundsException.class,
                    TeaHouse::nightIncome, -1, count, 14, 15);
        }
        Expect.refusedEach("nightIncome", Houses::busy, IndexOutOfBoundsException.class, TeaHouse::nightIncome, -1, 2);
        Supplier<TeaHouse> undone = Houses.and(() -> Houses.withNights(2), house -> house.undo());
        Expect.refusedEach("nightIncome", undone, IndexOutOfBoundsException.class, TeaHouse::nightIncome, -1, 1);
    }

    /** Promise 43: Returns a night in the ledger by its rank: greater income first, then lower numbers. */
    private static void testNightsThatBarelyDiffer() {
        TeaHouse house = Houses.withSteam(128);
        house.setSteamPrice(1);
        for (int income : new int[] {7, 8, 7, 8, 9, 7}) {
            house.sellSteam(income);
            house.closeNight();
        }
        int[] due = {4, 1, 3, 0, 2, 5};
        for (int rank = 0; rank < due.length; rank++) {
            Expect.same("an eighth apart, rank " + rank, house.nightByIncome(rank), due[rank]);
        }
        for (int rank = 0; rank < 14; rank++) {
            Expect.same("all are equal, rank " + rank, Houses.withNights(14).nightByIncome(rank), rank);
        }
    }

    /** Promise 43: The ledger itself does not change. */
    private static void testTheLedgerStaysAsItIs() {
        TeaHouse house = withIncomes(1, 2, 3, 4, 5, 6, 7, 8, 9, 10, 11, 12, 13, 14);
        for (int rank = 0; rank < 14; rank++) {
            Expect.same("rank " + rank, house.nightByIncome(rank), 13 - rank);
        }
        Expect.same("the ledger", Words.ledger(house), "2 4 6 8 10 12 14 16 18 20 22 24 26 28");
        for (int night = 0; night < 14; night++) {
            Expect.same("night " + night, house.nightIncome(night), (night + 1) * 0.25);
        }
    }

    /** Promise 43: `rank`: the rank, starting at 0 */
    private static void testTheFirstAndTheLastRank() {
        TeaHouse house = withIncomes(1, 2, 3, 4, 5, 6, 7, 8, 9, 10, 11, 12, 13, 14);
        Expect.same("the first", house.nightByIncome(0), 13);
        Expect.same("the last", house.nightByIncome(13), 0);
        Expect.same("the only one", Houses.withNights(1).nightByIncome(0), 0);
    }

    /** Promise 43: Throws `NoSuchElementException` if there is no such rank */
    private static void testNoSuchRank() {
        for (int count : new int[] {0, 1, 2, 13, 14}) {
            Expect.refusedEach("nightByIncome", () -> Houses.withNights(count), NO_ELEMENT, TeaHouse::nightByIncome,
                    -1, count, 14, 15);
        }
        Expect.refusedEach("nightByIncome", Houses::busy, NO_ELEMENT, TeaHouse::nightByIncome, -1, 2);
    }

    private interface Greatest {
        float of(TeaHouse house, int nights);
    }

    private static void expectGreatest(String method, Greatest greatest) {
        TeaHouse one = withIncomes(5);
        Expect.same(method + " of one night", greatest.of(one, 1), 1.25);
        TeaHouse first = withIncomes(9, 8, 1, 1, 1);
        Expect.same(method + ", the first nights", greatest.of(first, 2), 4.25);
        TeaHouse last = withIncomes(1, 1, 1, 8, 9);
        Expect.same(method + ", the last nights", greatest.of(last, 2), 4.25);
        last.sellSteam(20);
        Expect.same(method + " without the present night", greatest.of(last, 1), 2.25);
        TeaHouse full = withIncomes(1, 0, 2, 0, 3, 0, 4, 0, 5, 0, 6, 0, 7, 8);
        Expect.same(method + " of 1 of 14 nights", greatest.of(full, 1), 2.0);
        Expect.same(method + " of 2 of 14 nights", greatest.of(full, 2), 3.75);
        Expect.same(method + " of 13 of 14 nights", greatest.of(full, 13), 8.75);
        Expect.same(method + " of all 14 nights", greatest.of(full, 14), 9.0);
        Expect.same(method + " of nights without income", greatest.of(Houses.withNights(14), 14), 0.0);
        TeaHouse undone = withIncomes(1, 9);
        undone.undo();
        Expect.same(method + " after undo", greatest.of(undone, 1), 0.25);
    }

    private static void expectNoGreatest(String method, Expect.NumberCall call) {
        for (int count : new int[] {0, 1, 13}) {
            int[] more = count == 13 ? new int[] {14} : new int[] {count + 1, 14};
            for (int nights : more) {
                Expect.refused(method + "(" + nights + ") of " + count, () -> Houses.withNights(count), NO_ELEMENT,
                        house -> call.make(house, nights));
            }
        }
        Expect.refused(method + "(3) of 2", Houses::busy, NO_ELEMENT, house -> call.make(house, 3));
        call.make(Houses.withNights(13), 13);
        call.make(Houses.busy(), 2);
    }

    /**
     * Promise 44: Returns the greatest sum of the incomes of a number of consecutive nights in the ledger, adding
     * them anew for each first night.
     */
    private static void testGreatestOfTheFirstAndTheLastNights() {
        expectGreatest("greatestIncome", TeaHouse::greatestIncome);
    }

    /** Promise 44: `nights`: the number of nights, 1 to 14 */
    private static void testGreatestOf1And14() {
        Expect.same("1", withIncomes(1, 2, 3, 4, 5, 6, 7, 8, 9, 10, 11, 12, 13, 14).greatestIncome(1), 3.5);
        Expect.same("14", withIncomes(1, 2, 3, 4, 5, 6, 7, 8, 9, 10, 11, 12, 13, 14).greatestIncome(14), 26.25);
    }

    /** Promise 44: Throws `IllegalArgumentException` if the number of nights is out of range */
    private static void testGreatestOfTooFewOrTooMany() {
        for (int count : new int[] {0, 2, 14}) {
            Expect.refusedEach("greatestIncome", () -> Houses.withNights(count), OUT_OF_RANGE,
                    TeaHouse::greatestIncome, 0, 15, -1);
        }
    }

    /** Promise 44: Throws `NoSuchElementException` if the ledger holds fewer nights */
    private static void testGreatestOfMoreThanThereAre() {
        expectNoGreatest("greatestIncome", TeaHouse::greatestIncome);
    }

    /**
     * Promise 45: Returns the same sum as greatestIncome, but computes it from the sums of the incomes of the first
     * nights, as differences.
     */
    private static void testGreatestBySumsOfTheFirstAndTheLastNights() {
        expectGreatest("greatestIncomeBySums", TeaHouse::greatestIncomeBySums);
    }

    /** Promise 45: `nights`: the number of nights, 1 to 14 */
    private static void testGreatestBySumsOf1And14() {
        Expect.same("1", withIncomes(1, 2, 3, 4, 5, 6, 7, 8, 9, 10, 11, 12, 13, 14).greatestIncomeBySums(1), 3.5);
        Expect.same("14", withIncomes(1, 2, 3, 4, 5, 6, 7, 8, 9, 10, 11, 12, 13, 14).greatestIncomeBySums(14), 26.25);
    }

    /** Promise 45: Throws `IllegalArgumentException` if the number of nights is out of range */
    private static void testGreatestBySumsOfTooFewOrTooMany() {
        for (int count : new int[] {0, 2, 14}) {
            Expect.refusedEach("greatestIncomeBySums", () -> Houses.withNights(count), OUT_OF_RANGE,
                    TeaHouse::greatestIncomeBySums, 0, 15, -1);
        }
    }

    /** Promise 45: Throws `NoSuchElementException` if the ledger holds fewer nights */
    private static void testGreatestBySumsOfMoreThanThereAre() {
        expectNoGreatest("greatestIncomeBySums", TeaHouse::greatestIncomeBySums);
    }

    /** Promise 46: Returns the sum of the incomes of all nights in the ledger and of the present night. */
    private static void testTotalOfNoAndOfAllNights() {
        Expect.same("no night, no income", new TeaHouse().totalIncome(), 0.0);
        TeaHouse present = Houses.withSteam(1);
        present.sellSteam(1);
        Expect.same("the present night alone", present.totalIncome(), 0.25);
        present.closeNight();
        Expect.same("the ledger alone", present.totalIncome(), 0.25);
        TeaHouse full = withIncomes(1, 2, 3, 4, 5, 6, 7, 8, 9, 10, 11, 12, 13, 14);
        full.sellSteam(1);
        Expect.same("14 nights and the present one", full.totalIncome(), 26.5);
    }

    /** Promise 47: Returns the same sum as totalIncome, but adds the income from cups and the income from steam. */
    private static void testTotalOfNoAndOfAllSales() {
        Expect.same("no sale", new TeaHouse().totalIncomeBySales(), 0.0);
        TeaHouse steam = Houses.withSteam(1);
        steam.sellSteam(1);
        Expect.same("steam alone", steam.totalIncomeBySales(), 0.25);
        Expect.same("cups alone", Houses.withUsedCups(20).totalIncomeBySales(), 30.0);
        TeaHouse both = Houses.withUsedCups(20);
        both.sellSteam(2);
        both.closeNight();
        Expect.same("cups and steam", both.totalIncomeBySales(), 30.5);
        TeaHouse full = withIncomes(1, 2, 3, 4, 5, 6, 7, 8, 9, 10, 11, 12, 13, 14);
        full.sellSteam(1);
        Expect.same("14 nights and the present one", full.totalIncomeBySales(), 26.5);
    }

    /** Promise 48: Returns the number of orders that have been served so far. */
    private static void testServedSoFar() {
        Expect.same("none", new TeaHouse().servedOrders(), 0);
        TeaHouse house = Houses.hot(31);
        house.order(0, 1, 60, 1);
        house.order(0, 6, 60, 1);
        house.cancel(0);
        Expect.same("cancelled", house.servedOrders(), 0);
        house.serveNext();
        Expect.same("one, of six cups", house.servedOrders(), 1);
        Expect.thrown("none waits", IllegalStateException.class, house::serveNext);
        Expect.same("one after a refused call", house.servedOrders(), 1);
        house.undo();
        Expect.same("undone", house.servedOrders(), 0);
    }

    /** Promise 49: Returns the number of whistles that have been heard so far. */
    private static void testHeardSoFar() {
        Expect.same("none", new TeaHouse().whistlesHeard(), 0);
        TeaHouse house = Houses.after("kettle 16;fill 0 16;burner 0 5;minutes 11");
        Expect.same("not yet", house.whistlesHeard(), 0);
        house.pass(2);
        Expect.same("one", house.whistlesHeard(), 1);
        Expect.same("none lost", house.whistlesLost(), 0);
        Words.run(house, "burner 0 0;minutes 1;burner 0 5;minutes 1");
        Expect.same("two", house.whistlesHeard(), 2);
        house.undo();
        house.undo();
        Expect.same("undone", house.whistlesHeard(), 0);
    }

    /** Promise 50: Returns the number of whistles that have been lost so far. */
    private static void testLostSoFar() {
        Expect.same("none", new TeaHouse().whistlesLost(), 0);
        TeaHouse house = Houses.after("attend 0;kettle 16;fill 0 16;burner 0 5;minutes 11");
        Expect.same("not yet", house.whistlesLost(), 0);
        house.pass(2);
        Expect.same("one", house.whistlesLost(), 1);
        Expect.same("none heard", house.whistlesHeard(), 0);
        Words.run(house, "burner 0 0;minutes 1;burner 0 5;minutes 1");
        Expect.same("two", house.whistlesLost(), 2);
        house.undo();
        house.undo();
        Expect.same("undone", house.whistlesLost(), 0);
    }

    /** Promise 52: Returns the number of lost whistles, converted to float, divided by the number of all whistles. */
    private static void testNoneLostAndAllLost() {
        Expect.same("none of one", Houses.after("kettle 16;fill 0 16;burner 0 5;minutes 12").lostShare(), 0.0f);
        Expect.same("one of one", Houses.after("attend 0;kettle 16;fill 0 16;burner 0 5;minutes 12").lostShare(), 1.0f);
        TeaHouse house = Houses.after("kettle 16;kettle 16;kettle 16;fill 0 16;fill 1 16;fill 2 16");
        Words.run(house, "attend 0;burner 0 5;burner 1 5;minutes 12;attend 1");
        Words.run(house, "burner 2 5;minutes 12");
        Expect.same("two of three", house.lostShare(), 2.0f / 3.0f);
    }

    /** Promise 52: Throws `ArithmeticException` if there were no whistles */
    private static void testShareOfNoWhistles() {
        Class<ArithmeticException> type = ArithmeticException.class;
        Expect.refused("at first", TeaHouse::new, type, house -> house.lostShare());
        Supplier<TeaHouse> before = () -> Houses.after("kettle 16;fill 0 16;burner 0 5;minutes 11");
        Expect.refused("a minute before the first", before, type, house -> house.lostShare());
        Supplier<TeaHouse> undone = Houses.and(before, house -> {
            house.pass(1);
            house.undo();
        });
        Expect.refused("the first was undone", undone, type, house -> house.lostShare());
    }

    /**
     * Promise 53: Checks the tea house: filledTotal is equal to the volumes of all kettles, pouredTotal and
     * boiledTotal together, the steam that is collected is at most boiledTotal, totalIncome and totalIncomeBySales
     * are equal, greatestIncome and greatestIncomeBySums are equal for all numbers of nights in the ledger, orderAt
     * and positionOf fit together for all waiting orders, kettleByTemperature gives every kettle once, the bits of
     * every temperature stand for it, and both methods for the minutes until boiling agree for all kettles.
     */
    private static void testBalancedFromEmptyToFull() {
        Expect.yes("empty", new TeaHouse().isBalanced());
        Expect.yes("busy", Houses.busy().isBalanced());
        Expect.yes("full", Houses.full().isBalanced());
        Expect.yes("all steam is there", Houses.withSteam(128).isBalanced());
        Expect.yes("all cups are used", Houses.withUsedCups(20).isBalanced());
        Expect.yes("the ledger is full", withIncomes(1, 9, 2, 8, 3, 7, 4, 6, 5, 0, 1, 9, 2, 8).isBalanced());
        TeaHouse cooling = Houses.hot(31);
        for (int minute = 0; minute < 165; minute++) {
            cooling.pass(1);
            Expect.yes("at " + cooling.temperature(0), cooling.isBalanced());
        }
    }
}
