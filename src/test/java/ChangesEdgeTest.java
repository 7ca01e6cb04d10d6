import java.util.NoSuchElementException;
import java.util.function.Supplier;

/** The boundaries of promises 1 to 14: the calls that change a tea house. */
public final class ChangesEdgeTest {
    private static final Class<IllegalArgumentException> OUT_OF_RANGE = IllegalArgumentException.class;
    private static final Class<IllegalStateException> NOT_NOW = IllegalStateException.class;

    public static void main(String[] args) {
        Expect.allOf(ChangesEdgeTest.class);
    }

    /** Promise 1: Creates a tea house without kettles and orders. */
    private static void testNothingIsThereAtFirst() {
        TeaHouse house = new TeaHouse();
        Expect.same("kettles", house.kettleCount(), 0);
        Expect.same("orders", house.waitingCount(), 0);
        Expect.thrown("kettle 0", IndexOutOfBoundsException.class, () -> house.capacity(0));
        Expect.thrown("order 0", NoSuchElementException.class, () -> house.cupsOf(0));
        Expect.thrown("the first order", NoSuchElementException.class, () -> house.orderAt(0));
        Expect.same("the first kettle", house.addKettle(2), 0);
        Expect.same("the first order", house.order(0, 1, 60, 1), 0);
    }

    /** Promise 2: `quarters`: the capacity in quarters of a litre, 2 to 16 */
    private static void testAddTheLeastAndTheGreatestKettle() {
        TeaHouse house = new TeaHouse();
        house.addKettle(2);
        house.addKettle(16);
        Expect.same("the least", house.capacity(0), 0.5);
        Expect.same("the greatest", house.capacity(1), 4.0);
    }

    /** Promise 2: Returns the number of the kettle. */
    private static void testAddTheFirstAndTheLastKettle() {
        Expect.same("the first", new TeaHouse().addKettle(16), 0);
        Expect.same("the last", Houses.withKettles(3).addKettle(16), 3);
    }

    /** Promise 2: Throws `IllegalArgumentException` if the capacity is out of range */
    private static void testAddTooSmallOrTooLargeAKettle() {
        Expect.refusedEach("addKettle", TeaHouse::new, OUT_OF_RANGE, TeaHouse::addKettle, 1, 17, 0, -1);
        Expect.refusedEach("addKettle", Houses::busy, OUT_OF_RANGE, TeaHouse::addKettle, 1, 17, 0, -1);
    }

    /** Promise 2: Throws `IllegalStateException` if there are 4 kettles */
    private static void testAddAFifthKettle() {
        Supplier<TeaHouse> four = () -> Houses.withKettles(4);
        Expect.refused("addKettle(2)", four, NOT_NOW, house -> house.addKettle(2));
        Expect.refused("addKettle(16)", four, NOT_NOW, house -> house.addKettle(16));
        TeaHouse house = four.get();
        house.undo();
        Expect.same("a fourth once more", house.addKettle(16), 3);
        Expect.thrown("a fifth", NOT_NOW, () -> house.addKettle(16));
    }

    /** Promise 3: `kettle`: the number of the kettle */
    private static void testFillTheFirstAndTheLastKettle() {
        TeaHouse house = Houses.withKettles(4);
        house.fill(0, 1);
        house.fill(3, 2);
        for (int kettle = 0; kettle < 4; kettle++) {
            Expect.same("kettle " + kettle, house.volume(kettle), kettle == 0 ? 0.25 : kettle == 3 ? 0.5 : 0.0);
        }
    }

    /** Promise 3: `quarters`: the volume in quarters of a litre, 1 to 16 */
    private static void testFillTheLeastAndTheMost() {
        TeaHouse house = Houses.withKettles(4);
        house.fill(3, 1);
        Expect.same("the least", house.volume(3), 0.25);
        house.undo();
        house.fill(3, 16);
        Expect.same("the most", house.volume(3), 4.0);
    }

    /** Promise 3: Returns the temperature afterwards. */
    private static void testFillTheColdestAndTheHottest() {
        Expect.same("the coldest", Houses.withKettles(1).fill(0, 1), 20.0);
        TeaHouse house = Houses.hot(30);
        Expect.same("the hottest", house.fill(0, 1), 95.0);
        Expect.same("the same temperature", house.temperature(0), 95.0);
    }

    /** Promise 3: Throws `IndexOutOfBoundsException` if there is no such kettle */
    private static void testFillNoKettle() {
        Edges.expectNoSuchKettle("fill", (house, kettle) -> house.fill(kettle, 1));
    }

    /** Promise 3: Throws `IllegalArgumentException` if the volume is out of range */
    private static void testFillTooLittleOrTooMuch() {
        Expect.refusedEach("fill 3 with ", () -> Houses.withKettles(4), OUT_OF_RANGE,
                (house, quarters) -> house.fill(3, quarters), 0, 17, -1, 1 << 30, 1 << 31, (1 << 30) + 1);
        Expect.refusedEach("fill 1 with ", Houses::busy, OUT_OF_RANGE,
                (house, quarters) -> house.fill(1, quarters), 0, 17, -1, 1 << 30, 1 << 31, (1 << 30) + 1);
    }

    /** Promise 3: Throws `IllegalStateException` if the volume in the kettle would be greater than its capacity */
    private static void testFillAboveTheBrim() {
        Supplier<TeaHouse> empty = () -> Houses.withKettles(1);
        Expect.refused("5 of 4 quarters", empty, NOT_NOW, house -> house.fill(0, 5));
        Expect.refused("16 of 4 quarters", empty, NOT_NOW, house -> house.fill(0, 16));
        Supplier<TeaHouse> full = Houses.and(empty, house -> house.fill(0, 4));
        Expect.same("4 of 4 quarters", full.get().volume(0), 1.0);
        Expect.refused("1 more than 4", full, NOT_NOW, house -> house.fill(0, 1));
        Expect.refused("an eighth too much", () -> Houses.hot(31), NOT_NOW, house -> house.fill(0, 1));
        Expect.same("just enough room", Houses.hot(30).fill(0, 1), 95.0);
        Expect.refused("a quarter too much", () -> Houses.hot(30), NOT_NOW, house -> house.fill(0, 2));
    }

    /** Promise 4: `kettle`: the number of the kettle */
    private static void testSetTheFirstAndTheLastBurner() {
        TeaHouse house = Houses.withKettles(4);
        house.setBurner(0, 1);
        house.setBurner(3, 5);
        for (int kettle = 0; kettle < 4; kettle++) {
            Expect.same("kettle " + kettle, house.burner(kettle), kettle == 0 ? 1 : kettle == 3 ? 5 : 0);
        }
    }

    /** Promise 4: `level`: the level, 0 to 5 */
    private static void testSetTheLeastAndTheGreatestLevel() {
        TeaHouse house = Houses.withKettles(1);
        house.setBurner(0, 5);
        Expect.same("the greatest", house.burner(0), 5);
        house.setBurner(0, 0);
        Expect.same("the least", house.burner(0), 0);
    }

    /** Promise 4: Returns the previous level. */
    private static void testThePreviousLevel() {
        TeaHouse house = Houses.withKettles(1);
        Expect.same("the first level", house.setBurner(0, 5), 0);
        Expect.same("the greatest level", house.setBurner(0, 5), 5);
        Expect.same("the same level", house.setBurner(0, 0), 5);
        Expect.same("the least level", house.setBurner(0, 1), 0);
    }

    /** Promise 4: Throws `IndexOutOfBoundsException` if there is no such kettle */
    private static void testSetNoBurner() {
        Edges.expectNoSuchKettle("setBurner", (house, kettle) -> house.setBurner(kettle, 1));
    }

    /** Promise 4: Throws `IllegalArgumentException` if the level is out of range */
    private static void testSetTooLowOrTooHighALevel() {
        Expect.refusedEach("setBurner 0 to ", () -> Houses.withKettles(1), OUT_OF_RANGE,
                (house, level) -> house.setBurner(0, level), -1, 6);
        Expect.refusedEach("setBurner 1 to ", Houses::busy, OUT_OF_RANGE,
                (house, level) -> house.setBurner(1, level), -1, 6);
    }

    /** Promise 5: `table`: the table, 0 to 9 */
    private static void testTheFirstAndTheLastTable() {
        TeaHouse house = new TeaHouse();
        house.order(0, 3, 80, 5);
        house.order(9, 3, 80, 5);
        Expect.same("table 0", Words.order(house, 0), "#0 t0 3x80 p5");
        Expect.same("table 9", Words.order(house, 1), "#1 t9 3x80 p5");
    }

    /** Promise 5: `cups`: the number of cups, 1 to 6 */
    private static void testOrderTheFewestAndTheMostCups() {
        TeaHouse house = new TeaHouse();
        house.order(5, 1, 80, 5);
        house.order(5, 6, 80, 5);
        Expect.same("1 cup", house.cupsOf(0), 1);
        Expect.same("6 cups", house.cupsOf(1), 6);
    }

    /** Promise 5: `minimum`: the minimum temperature in whole degrees, 60 to 100 */
    private static void testTheLeastAndTheGreatestMinimum() {
        TeaHouse house = new TeaHouse();
        house.order(5, 3, 60, 5);
        house.order(5, 3, 100, 5);
        Expect.same("60 degrees", Words.order(house, 0), "#0 t5 3x60 p5");
        Expect.same("100 degrees", Words.order(house, 1), "#1 t5 3x100 p5");
    }

    /** Promise 5: `priority`: the priority, 1 to 9 */
    private static void testTheLeastAndTheGreatestPriority() {
        TeaHouse house = new TeaHouse();
        house.order(5, 3, 80, 1);
        house.order(5, 3, 80, 9);
        Expect.same("the greatest is first", house.orderAt(0), 1);
        Expect.same("priority 1", Words.order(house, 0), "#0 t5 3x80 p1");
        Expect.same("priority 9", Words.order(house, 1), "#1 t5 3x80 p9");
    }

    /** Promise 5: Returns the number of the order. */
    private static void testTheFirstAndTheTenthOrder() {
        Expect.same("the first", new TeaHouse().order(0, 1, 60, 1), 0);
        Expect.same("the tenth", Houses.withOrders(9).order(0, 1, 60, 9), 9);
    }

    /** Promise 5: Throws `IllegalArgumentException` if one of the arguments is out of range */
    private static void testOrderOutOfRange() {
        for (Supplier<TeaHouse> made : Edges.NEW_AND_BUSY) {
            Expect.refusedEach("table ", made, OUT_OF_RANGE, (house, table) -> house.order(table, 1, 60, 1), -1, 10);
            Expect.refusedEach("cups ", made, OUT_OF_RANGE, (house, cups) -> house.order(0, cups, 60, 1), 0, 7, -1);
            Expect.refusedEach("minimum ", made, OUT_OF_RANGE, (house, least) -> house.order(0, 1, least, 1), 59, 101,
                    0, -1, 120, 200);
            Expect.refusedEach("priority ", made, OUT_OF_RANGE, (house, priority) -> house.order(0, 1, 60, priority),
                    0, 10, -1);
            Expect.refusedEach("all ", made, OUT_OF_RANGE, (house, all) -> house.order(all, all, all, all), -1, 0, 200);
        }
    }

    /** Promise 5: Throws `IllegalStateException` if 10 orders wait */
    private static void testOrderTheEleventh() {
        Supplier<TeaHouse> ten = () -> Houses.withOrders(10);
        Expect.refused("the eleventh of the least", ten, NOT_NOW, house -> house.order(0, 1, 60, 1));
        Expect.refused("the eleventh of the most", ten, NOT_NOW, house -> house.order(9, 6, 100, 9));
        TeaHouse house = ten.get();
        house.cancel(0);
        Expect.same("nine wait", house.order(0, 1, 60, 1), 10);
        Expect.thrown("ten wait again", NOT_NOW, () -> house.order(0, 1, 60, 1));
    }

    /** Promise 6: `order`: the number of a waiting order */
    private static void testCancelTheFirstAndTheLast() {
        TeaHouse house = Houses.withOrders(10);
        house.cancel(0);
        Expect.same("the first is gone", house.orderAt(0), 1);
        house.cancel(9);
        Expect.same("the last is gone", house.orderAt(7), 8);
        Expect.thrown("no ninth", NoSuchElementException.class, () -> house.orderAt(8));
        house.cancel(4);
        Expect.same("the one before stays", house.orderAt(2), 3);
        Expect.same("the one after moves up", house.orderAt(3), 5);
    }

    /** Promise 6: Returns the number of orders that still wait. */
    private static void testHowManyStillWait() {
        Expect.same("of ten", Houses.withOrders(10).cancel(9), 9);
        Expect.same("of one", Houses.withOrders(1).cancel(0), 0);
    }

    /** Promise 6: Throws `NoSuchElementException` if no waiting order has this number */
    private static void testCancelNoOrder() {
        Edges.expectNoSuchOrder("cancel", TeaHouse::cancel);
    }

    /** Promise 7: Serves the first waiting order. */
    private static void testServeTheFirst() {
        TeaHouse house = Houses.hot(31);
        house.order(0, 1, 60, 1);
        house.order(0, 1, 60, 9);
        house.order(0, 1, 60, 9);
        Expect.same("the first of the highest priority", house.serveNext(), 1);
        Expect.same("the next of the highest priority", house.serveNext(), 2);
        Expect.same("the last", house.serveNext(), 0);
        Expect.same("none waits", house.waitingCount(), 0);
    }

    /**
     * Promise 7: Throws `IllegalStateException` if no order waits, no kettle suits the first order, or there are
     * fewer clean cups than it needs
     */
    private static void testServeNothing() {
        Supplier<TeaHouse> water = () -> Houses.hot(12);
        Expect.refused("nothing at all", TeaHouse::new, NOT_NOW, house -> house.serveNext());
        Expect.refused("no order waits", water, NOT_NOW, house -> house.serveNext());
        Expect.refused("no kettle", () -> Houses.withOrders(1), NOT_NOW, house -> house.serveNext());
        Supplier<TeaHouse> cold = Houses.and(water, house -> house.pass(1));
        Supplier<TeaHouse> tooCold = Houses.and(cold, house -> house.order(0, 1, 100, 1));
        Expect.refused("half a degree too cold", tooCold, NOT_NOW, house -> house.serveNext());
        Supplier<TeaHouse> behind = Houses.and(tooCold, house -> house.order(0, 1, 60, 1));
        Expect.refused("only the second is suited", behind, NOT_NOW, house -> house.serveNext());
        Supplier<TeaHouse> tooLittle = Houses.and(() -> Houses.hot(11), house -> house.order(0, 6, 60, 1));
        Expect.refused("an eighth too little", tooLittle, NOT_NOW, house -> house.serveNext());
        Supplier<TeaHouse> noCups = Houses.and(() -> Houses.withUsedCups(18), house -> house.order(0, 3, 60, 1));
        Expect.refused("one clean cup too few", noCups, NOT_NOW, house -> house.serveNext());
        Supplier<TeaHouse> twoCups = Houses.and(() -> Houses.withUsedCups(18), house -> house.order(0, 2, 60, 1));
        Expect.same("just enough clean cups", twoCups.get().serveNext(), 3);
        Supplier<TeaHouse> allThere = Houses.and(water, house -> house.order(0, 6, 100, 1));
        Expect.same("just enough of all", allThere.get().serveNext(), 0);
    }

    /** Promise 8: `cups`: the number of cups, 1 to 20 */
    private static void testWashOneAndTwenty() {
        Expect.same("one of one", Houses.withUsedCups(1).wash(1), 20);
        Expect.same("one of twenty", Houses.withUsedCups(20).wash(1), 1);
        Expect.same("all twenty", Houses.withUsedCups(20).wash(20), 20);
    }

    /** Promise 8: Returns the number of clean cups afterwards. */
    private static void testCleanAfterWashing() {
        TeaHouse house = Houses.withUsedCups(20);
        Expect.same("the fewest", house.wash(1), 1);
        Expect.same("all but one", house.wash(18), 19);
        Expect.same("all", house.wash(1), 20);
        Expect.same("as cleanCups", house.cleanCups(), 20);
    }

    /** Promise 8: Throws `IllegalArgumentException` if the number of cups is out of range */
    private static void testWashTooFewOrTooMany() {
        Expect.refusedEach("wash", TeaHouse::new, OUT_OF_RANGE, TeaHouse::wash, 0, 21, -1);
        Expect.refusedEach("wash", () -> Houses.withUsedCups(20), OUT_OF_RANGE, TeaHouse::wash, 0, 21, -1);
    }

    /** Promise 8: Throws `IllegalStateException` if there are fewer used cups */
    private static void testWashMoreThanAreUsed() {
        Expect.refused("1 of none", TeaHouse::new, NOT_NOW, house -> house.wash(1));
        Expect.refused("20 of none", TeaHouse::new, NOT_NOW, house -> house.wash(20));
        Expect.refused("2 of one", () -> Houses.withUsedCups(1), NOT_NOW, house -> house.wash(2));
        Expect.refused("20 of nineteen", () -> Houses.withUsedCups(19), NOT_NOW, house -> house.wash(20));
        Expect.same("19 of nineteen", Houses.withUsedCups(19).wash(19), 20);
    }

    /** Promise 9: `eighths`: the volume in eighths of a litre, 1 to 80 */
    private static void testSellTheLeastAndTheMost() {
        TeaHouse house = Houses.withSteam(81);
        Expect.same("the least", house.sellSteam(1), 0.25);
        Expect.same("the most", house.sellSteam(80), 20.0);
        Expect.same("nothing is left", house.steam(), 0.0);
    }

    /** Promise 9: Throws `IllegalArgumentException` if the volume is out of range */
    private static void testSellTooLittleOrTooMuch() {
        Expect.refusedEach("sellSteam", TeaHouse::new, OUT_OF_RANGE, TeaHouse::sellSteam, 0, 81, -1);
        Expect.refusedEach("sellSteam", () -> Houses.withSteam(128), OUT_OF_RANGE, TeaHouse::sellSteam, 0, 81, -1);
    }

    /** Promise 9: Throws `IllegalStateException` if less steam is collected */
    private static void testSellMoreThanIsCollected() {
        Expect.refused("1 of none", TeaHouse::new, NOT_NOW, house -> house.sellSteam(1));
        Expect.refused("2 of one", () -> Houses.withSteam(1), NOT_NOW, house -> house.sellSteam(2));
        Expect.refused("80 of 79", () -> Houses.withSteam(79), NOT_NOW, house -> house.sellSteam(80));
        Expect.same("80 of 80", Houses.withSteam(80).sellSteam(80), 20.0);
    }

    /** Promise 10: `eighths`: the price in eighths, 1 to 80 */
    private static void testTheLeastAndTheGreatestCupPrice() {
        TeaHouse house = new TeaHouse();
        house.setCupPrice(1);
        Expect.same("the least", house.cupPrice(), 0.125);
        house.setCupPrice(80);
        Expect.same("the greatest", house.cupPrice(), 10.0);
    }

    /** Promise 10: Returns the previous price. */
    private static void testThePreviousCupPrice() {
        TeaHouse house = new TeaHouse();
        Expect.same("the initial price", house.setCupPrice(80), 1.5);
        Expect.same("the greatest price", house.setCupPrice(80), 10.0);
        Expect.same("the same price", house.setCupPrice(1), 10.0);
        Expect.same("the least price", house.setCupPrice(1), 0.125);
    }

    /** Promise 10: Throws `IllegalArgumentException` if the price is out of range */
    private static void testTooLowOrTooHighACupPrice() {
        Expect.refusedEach("setCupPrice", TeaHouse::new, OUT_OF_RANGE, TeaHouse::setCupPrice, 0, 81, -1);
        Expect.refusedEach("setCupPrice", Houses::busy, OUT_OF_RANGE, TeaHouse::setCupPrice, 0, 81, -1);
    }

    /** Promise 11: `price`: the price, a whole number from 1 to 80 */
    private static void testTheLeastAndTheGreatestSteamPrice() {
        TeaHouse house = new TeaHouse();
        house.setSteamPrice(1);
        Expect.same("the least", house.steamPrice(), 1.0);
        house.setSteamPrice(80);
        Expect.same("the greatest", house.steamPrice(), 80.0);
    }

    /** Promise 11: Returns the previous price. */
    private static void testThePreviousSteamPrice() {
        TeaHouse house = new TeaHouse();
        Expect.same("the initial price", house.setSteamPrice(80), 2.0);
        Expect.same("the greatest price", house.setSteamPrice(80), 80.0);
        Expect.same("the same price", house.setSteamPrice(1), 80.0);
        Expect.same("the least price", house.setSteamPrice(1), 1.0);
    }

    /** Promise 11: Throws `IllegalArgumentException` if the price is out of range */
    private static void testTooLowOrTooHighASteamPrice() {
        Expect.refusedEach("setSteamPrice", TeaHouse::new, OUT_OF_RANGE, TeaHouse::setSteamPrice, 0, 81, -1);
        Expect.refusedEach("setSteamPrice", Houses::busy, OUT_OF_RANGE, TeaHouse::setSteamPrice, 0, 81, -1);
    }

    /** Promise 12: `isPresent`: true if an attendant is present from now on */
    private static void testPresentFromNowOn() {
        TeaHouse house = Houses.after("kettle 16;fill 0 16;burner 0 5;minutes 12");
        house.setAttendant(false);
        Expect.same("the whistle before was heard", house.whistlesHeard(), 1);
        Expect.same("none was lost", house.whistlesLost(), 0);
        Words.run(house, "burner 0 0;minutes 1;burner 0 1;minutes 1");
        Expect.same("the next is lost", house.whistlesLost(), 1);
        house.setAttendant(true);
        Words.run(house, "burner 0 0;minutes 1;burner 0 1;minutes 1");
        Expect.same("the last is heard", house.whistlesHeard(), 2);
        Expect.same("still one is lost", house.whistlesLost(), 1);
    }

    /** Promise 12: Returns true if an attendant was present before. */
    private static void testPresentBefore() {
        TeaHouse house = new TeaHouse();
        Expect.yes("present at first", house.setAttendant(true));
        Expect.yes("present, set again", house.setAttendant(false));
        Expect.no("absent", house.setAttendant(false));
        Expect.no("absent, set again", house.setAttendant(true));
        Expect.yes("present again", house.setAttendant(true));
    }

    /** Promise 13: Lets minutes pass, one after the other. */
    private static void testOneMinuteAfterTheOther() {
        TeaHouse atOnce = Houses.after("kettle 16;kettle 4;fill 0 16;fill 1 4;burner 0 4;burner 1 1");
        TeaHouse oneByOne = Houses.after("kettle 16;kettle 4;fill 0 16;fill 1 4;burner 0 4;burner 1 1");
        int whistles = 0;
        for (int minute = 0; minute < 120; minute++) {
            whistles += oneByOne.pass(1);
        }
        Expect.same("whistles", atOnce.pass(120), whistles);
        Expect.same("the tea house", Portrait.ofState(atOnce), Portrait.ofState(oneByOne));
    }

    /** Promise 13: `minutes`: the number of minutes, 1 to 120 */
    private static void testPassOneAnd120() {
        TeaHouse house = Houses.after("kettle 16;fill 0 16;burner 0 1");
        house.pass(1);
        Expect.same("one minute", house.temperature(0), 21.0);
        house.undo();
        house.pass(120);
        Expect.same("120 minutes, of which 41 boil", house.volume(0), 0.0);
        Expect.same("a minute after the last of 32", house.temperature(0), 20.0);
        TeaHouse cooling = Houses.hot(31);
        cooling.pass(120);
        Expect.same("120 times half a degree", cooling.temperature(0), 40.0);
    }

    /** Promise 13: Returns the number of whistles, heard and lost ones together. */
    private static void testNoWhistleAndFourWhistles() {
        TeaHouse house = Houses.withKettles(4);
        Expect.same("none", house.pass(120), 0);
        for (int kettle = 0; kettle < 4; kettle++) {
            house.fill(kettle, 4);
            house.setBurner(kettle, 5 - kettle);
        }
        house.setAttendant(false);
        Expect.same("four lost ones", house.pass(120), 4);
        house.undo();
        house.setAttendant(true);
        Expect.same("four heard ones", house.pass(120), 4);
    }

    /** Promise 13: Throws `IllegalArgumentException` if the number of minutes is out of range */
    private static void testPassTooFewOrTooMany() {
        Expect.refusedEach("pass", TeaHouse::new, OUT_OF_RANGE, TeaHouse::pass, 0, 121, -1);
        Expect.refusedEach("pass", Houses::busy, OUT_OF_RANGE, TeaHouse::pass, 0, 121, -1);
    }

    /** Promise 14: Returns its income. */
    private static void testCloseWithAndWithoutIncome() {
        TeaHouse house = Houses.withSteam(1);
        Expect.same("no income", house.closeNight(), 0.0);
        house.sellSteam(1);
        Expect.same("the income of one sale", house.closeNight(), 0.25);
        Expect.same("no income since", house.closeNight(), 0.0);
    }

    /** Promise 14: Throws `IllegalStateException` if the ledger holds 14 nights */
    private static void testCloseTheFifteenthNight() {
        Supplier<TeaHouse> thirteen = Houses.and(() -> Houses.withSteam(2), house -> {
            for (int night = 0; night < 13; night++) {
                house.closeNight();
            }
            house.sellSteam(1);
        });
        TeaHouse last = thirteen.get();
        Expect.same("the fourteenth", last.closeNight(), 0.25);
        Supplier<TeaHouse> fourteen = Houses.and(thirteen, house -> {
            house.closeNight();
            house.sellSteam(1);
        });
        Expect.refused("the fifteenth", fourteen, NOT_NOW, house -> house.closeNight());
        TeaHouse undone = fourteen.get();
        undone.undo();
        undone.undo();
        Expect.same("the fourteenth again", undone.closeNight(), 0.25);
    }
}
