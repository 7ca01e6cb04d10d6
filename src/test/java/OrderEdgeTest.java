import java.util.NoSuchElementException;
import java.util.function.Supplier;

/** The boundaries of promises 25 to 33: questions about orders and cups. */
public final class OrderEdgeTest {
    private static final Class<NoSuchElementException> NO_ELEMENT = NoSuchElementException.class;

    public static void main(String[] args) {
        Expect.allOf(OrderEdgeTest.class);
    }

    /** Ten orders of 1 to 6 cups, whose order of serving is that of their numbers backwards. */
    private static TeaHouse withTenOrders() {
        TeaHouse house = Houses.hot(12);
        for (int order = 0; order < 10; order++) {
            house.order(order, 1 + order % 6, 60 + 4 * order, Math.min(9, 1 + order));
        }
        house.cancel(9);
        house.order(9, 4, 96, 9);
        house.cancel(8);
        house.order(8, 3, 92, 9);
        return house;
    }

    /** Promise 25: Returns the number of waiting orders. */
    private static void testCountFrom0To10() {
        for (int count = 0; count <= 10; count++) {
            Expect.same("waitingCount", Houses.withOrders(count).waitingCount(), count);
        }
        TeaHouse house = Houses.withOrders(10);
        Expect.thrown("an eleventh", IllegalStateException.class, () -> house.order(0, 1, 60, 1));
        Expect.same("after a refused eleventh", house.waitingCount(), 10);
        TeaHouse served = Houses.hot(2);
        served.order(0, 1, 60, 1);
        served.serveNext();
        Expect.same("after the last was served", served.waitingCount(), 0);
    }

    /** Promise 26: `position`: the position, starting at 0 */
    private static void testTheFirstAndTheLastPosition() {
        int[] due = {10, 11, 7, 6, 5, 4, 3, 2, 1, 0};
        for (int position = 0; position < 10; position++) {
            Expect.same("orderAt(" + position + ")", withTenOrders().orderAt(position), due[position]);
        }
        Expect.same("the only one", Houses.withOrders(1).orderAt(0), 0);
    }

    /** Promise 26: Throws `NoSuchElementException` if there is no such position */
    private static void testNoSuchPosition() {
        for (int count = 0; count <= 10; count++) {
            int orders = count;
            Expect.refusedEach("orderAt", () -> Houses.withOrders(orders), NO_ELEMENT, TeaHouse::orderAt, -1, orders,
                    10);
        }
        Expect.refusedEach("orderAt", Houses::busy, NO_ELEMENT, TeaHouse::orderAt, -1, 2, 3);
    }

    /** Promise 27: `order`: the number of a waiting order */
    private static void testPositionOfTheLeastAndTheGreatestNumber() {
        TeaHouse house = withTenOrders();
        Expect.same("the least number", house.positionOf(0), 9);
        Expect.same("the greatest number", house.positionOf(11), 1);
    }

    /** Promise 27: Returns the position, starting at 0. */
    private static void testPositionsFrom0To9() {
        TeaHouse house = withTenOrders();
        for (int position = 0; position < 10; position++) {
            Expect.same("position", house.positionOf(house.orderAt(position)), position);
        }
        house.cancel(10);
        Expect.same("moves up to 0", house.positionOf(11), 0);
        Expect.same("moves up to 8", house.positionOf(0), 8);
    }

    /** Promise 27: Throws `NoSuchElementException` if no waiting order has this number */
    private static void testPositionOfNoOrder() {
        Edges.expectNoSuchOrder("positionOf", TeaHouse::positionOf);
    }

    /** Promise 28: `order`: the number of a waiting order */
    private static void testCupsOfTheLeastAndTheGreatestNumber() {
        TeaHouse house = withTenOrders();
        Expect.same("the least number", house.cupsOf(0), 1);
        Expect.same("the greatest number", house.cupsOf(11), 3);
    }

    /** Promise 28: Returns the number of cups. */
    private static void testTheFewestAndTheMostCups() {
        TeaHouse house = withTenOrders();
        Expect.same("the fewest", house.cupsOf(6), 1);
        Expect.same("the most", house.cupsOf(5), 6);
    }

    /** Promise 28: Throws `NoSuchElementException` if no waiting order has this number */
    private static void testCupsOfNoOrder() {
        Edges.expectNoSuchOrder("cupsOf", TeaHouse::cupsOf);
    }

    /** Promise 29: Returns the price of a waiting order at the present price of a cup. */
    private static void testTheLeastAndTheGreatestPrice() {
        TeaHouse house = withTenOrders();
        Expect.same("at the initial price", house.priceOf(0), 1.5);
        house.setCupPrice(1);
        Expect.same("the least", house.priceOf(0), 0.125);
        house.setCupPrice(80);
        Expect.same("the greatest", house.priceOf(5), 60.0);
        house.undo();
        Expect.same("at the price before", house.priceOf(5), 0.75);
    }

    /** Promise 29: `order`: the number of a waiting order */
    private static void testPriceOfTheLeastAndTheGreatestNumber() {
        TeaHouse house = withTenOrders();
        Expect.same("the least number", house.priceOf(0), 1.5);
        Expect.same("the greatest number", house.priceOf(11), 4.5);
    }

    /** Promise 29: Throws `NoSuchElementException` if no waiting order has this number */
    private static void testPriceOfNoOrder() {
        Edges.expectNoSuchOrder("priceOf", TeaHouse::priceOf);
    }

    /**
     * Promise 30: Returns the kettle from which a waiting order would be poured now, whatever its position and the
     * cups are.
     */
    private static void testKettleForTheLastWithoutCups() {
        TeaHouse house = Houses.withUsedCups(20);
        house.order(0, 6, 60, 9);
        int last = house.order(0, 1, 100, 1);
        Expect.same("no clean cup", house.cleanCups(), 0);
        Expect.same("the last order", house.kettleFor(last), 0);
        Expect.same("the first order", house.kettleFor(last - 1), 1);
        Expect.no("none can be served", house.canServe());
        for (int order = 2; order < 10; order++) {
            last = house.order(0, 1, 100, 1);
        }
        Expect.same("the tenth order", house.kettleFor(last), 0);
    }

    /** Promise 30: `order`: the number of a waiting order */
    private static void testKettleForTheLeastAndTheGreatestNumber() {
        TeaHouse house = withTenOrders();
        Expect.same("the least number", house.kettleFor(0), 0);
        Expect.same("the greatest number", house.kettleFor(11), 0);
    }

    /** Promise 30: Throws `NoSuchElementException` if no waiting order has this number, or no kettle suits it */
    private static void testKettleForNoOrderOrNoKettle() {
        Edges.expectNoSuchOrder("kettleFor", TeaHouse::kettleFor);
        Expect.refused("no kettle", () -> Houses.withOrders(1), NO_ELEMENT, house -> house.kettleFor(0));
        Supplier<TeaHouse> cooler = Houses.and(() -> Houses.hot(12), house -> house.pass(1));
        Supplier<TeaHouse> tooCold = Houses.and(cooler, house -> house.order(0, 6, 100, 1));
        Expect.refused("half a degree too cold", tooCold, NO_ELEMENT, house -> house.kettleFor(0));
        Supplier<TeaHouse> coldEnough = Houses.and(cooler, house -> house.order(0, 6, 99, 1));
        Expect.same("half a degree warmer", coldEnough.get().kettleFor(0), 0);
        Supplier<TeaHouse> tooLittle = Houses.and(() -> Houses.hot(11), house -> house.order(0, 6, 60, 1));
        Expect.refused("an eighth too little", tooLittle, NO_ELEMENT, house -> house.kettleFor(0));
        Supplier<TeaHouse> enough = Houses.and(() -> Houses.hot(12), house -> house.order(0, 6, 100, 1));
        Expect.same("just enough", enough.get().kettleFor(0), 0);
    }

    /**
     * Promise 31: Returns after how many minutes some kettle suits a waiting order for the first time if only minutes
     * pass, by letting minutes pass on a copy.
     */
    private static void testSuitableForTheFirstTime() {
        TeaHouse house = Houses.after("kettle 16;kettle 16;fill 0 1;fill 1 16;burner 0 2;burner 1 1");
        house.order(0, 1, 60, 1);
        house.order(0, 2, 60, 1);
        String before = Portrait.ofState(house);
        Expect.same("the first of two kettles", house.minutesUntilSuitable(0), 16);
        Expect.same("the only one with water enough", house.minutesUntilSuitable(1), 40);
        Expect.same("only a copy has changed", Portrait.ofState(house), before);
        for (int level = 1; level <= 5; level++) {
            TeaHouse heating = Houses.after("kettle 16;fill 0 16");
            heating.setBurner(0, level);
            for (int minimum = 60; minimum <= 100; minimum += 5) {
                int order = heating.order(0, 1, minimum, 1);
                int rise = 3 * level - 1;
                int due = (2 * minimum - 40 + rise - 1) / rise;
                Expect.same(minimum + " at level " + level, heating.minutesUntilSuitable(order), due);
            }
        }
        TeaHouse boilingAway = Houses.after("kettle 2;fill 0 1;burner 0 1;order 0 1 99 1");
        Expect.same("a minute before the water boils away", boilingAway.minutesUntilSuitable(0), 79);
    }

    /** Promise 31: `order`: the number of a waiting order */
    private static void testSuitableForTheLeastAndTheGreatestNumber() {
        TeaHouse house = withTenOrders();
        house.pass(20);
        Expect.same("the temperature", house.temperature(0), 90.0);
        house.setBurner(0, 1);
        Expect.same("the least number, of 60 degrees", house.minutesUntilSuitable(0), 0);
        Expect.same("the greatest number, of 92 degrees", house.minutesUntilSuitable(11), 2);
    }

    /** Promise 31: Returns the number of minutes, 0 if a kettle suits it now. */
    private static void testZeroMinutesAndOne() {
        TeaHouse house = Houses.hot(12);
        house.order(0, 6, 100, 1);
        Expect.same("it suits now", house.minutesUntilSuitable(0), 0);
        house.pass(1);
        house.setBurner(0, 5);
        house.order(0, 1, 100, 1);
        Expect.same("half a degree is missing", house.minutesUntilSuitable(1), 1);
        house.cancel(0);
        house.order(0, 1, 99, 1);
        Expect.same("it suits now at 99.5", house.minutesUntilSuitable(2), 0);
        TeaHouse lastMoment = Houses.hot(12);
        lastMoment.order(0, 6, 60, 1);
        lastMoment.setBurner(0, 1);
        Expect.same("now, though not in a minute", lastMoment.minutesUntilSuitable(0), 0);
        lastMoment.pass(1);
        Expect.thrown("too little after a minute", NO_ELEMENT, () -> lastMoment.minutesUntilSuitable(0));
    }

    /**
     * Promise 31: Throws `NoSuchElementException` if no waiting order has this number, or no kettle suits it within
     * 120 minutes
     */
    private static void testSuitableForNoOrderOrNever() {
        Edges.expectNoSuchOrder("minutesUntilSuitable", TeaHouse::minutesUntilSuitable);
        Expect.refused("no kettle", () -> Houses.withOrders(1), NO_ELEMENT, house -> house.minutesUntilSuitable(0));
        Supplier<TeaHouse> noFire = () -> Houses.after("kettle 16;fill 0 16;order 0 1 60 1");
        Expect.refused("no fire", noFire, NO_ELEMENT, house -> house.minutesUntilSuitable(0));
        Supplier<TeaHouse> noWater = () -> Houses.after("kettle 16;burner 0 5;order 0 1 60 1");
        Expect.refused("no water", noWater, NO_ELEMENT, house -> house.minutesUntilSuitable(0));
        Supplier<TeaHouse> tooLittle = () -> Houses.after("kettle 16;fill 0 5;burner 0 5;order 0 6 60 1");
        Expect.refused("a quarter too little", tooLittle, NO_ELEMENT, house -> house.minutesUntilSuitable(0));
        Supplier<TeaHouse> boilsAway = () -> Houses.after("kettle 2;fill 0 1;burner 0 1;order 0 1 100 1");
        Expect.refused("too little in the minute of boiling", boilsAway, NO_ELEMENT,
                house -> house.minutesUntilSuitable(0));
        Supplier<TeaHouse> cooling = Houses.and(() -> Houses.hot(12), house -> {
            house.pass(1);
            house.order(0, 1, 100, 1);
        });
        Expect.refused("it only cools", cooling, NO_ELEMENT, house -> house.minutesUntilSuitable(0));
        TeaHouse slowest = Houses.after("kettle 16;fill 0 16;burner 0 1;order 0 6 100 1");
        Expect.same("the slowest of all", slowest.minutesUntilSuitable(0), 80);
    }

    /** Promise 32: Returns whether serveNext would return normally now. */
    private static void testBarelyServable() {
        Expect.no("nothing at all", new TeaHouse().canServe());
        Expect.no("no order", Houses.hot(31).canServe());
        Expect.no("no kettle", Houses.withOrders(1).canServe());
        expectCanServe("just enough of all", Houses.hot(12), 6, 100, true);
        expectCanServe("an eighth too little", Houses.hot(11), 6, 100, false);
        TeaHouse cooler = Houses.hot(12);
        cooler.pass(1);
        expectCanServe("half a degree too cold", cooler, 6, 100, false);
        expectCanServe("just enough clean cups", Houses.withUsedCups(17), 3, 100, true);
        expectCanServe("one clean cup too few", Houses.withUsedCups(18), 3, 100, false);
    }

    private static void expectCanServe(String what, TeaHouse house, int cups, int minimum, boolean due) {
        int order = house.order(0, cups, minimum, 1);
        Expect.same(what, String.valueOf(house.canServe()), String.valueOf(due));
        if (due) {
            Expect.same(what + ", serveNext", house.serveNext(), order);
        } else {
            Expect.thrown(what + ", serveNext", IllegalStateException.class, house::serveNext);
        }
    }

    /** Promise 33: Returns the number of clean cups. */
    private static void testCleanCupsFrom20To0() {
        for (int used : new int[] {0, 1, 19, 20}) {
            Expect.same("cleanCups", Houses.withUsedCups(used).cleanCups(), 20 - used);
        }
        TeaHouse house = Houses.withUsedCups(20);
        house.undo();
        Expect.same("after undo", house.cleanCups(), 2);
    }
}
