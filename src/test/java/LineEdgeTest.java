import java.util.function.Supplier;

/** The boundaries of promises 54 to 57: the formatted line. */
public final class LineEdgeTest {
    private static final Class<IndexOutOfBoundsException> NO_INDEX = IndexOutOfBoundsException.class;

    public static void main(String[] args) {
        Expect.allOf(LineEdgeTest.class);
    }

    /**
     * Promise 54: Formats a kettle into the line, replacing the previous line: "K", the number, " ", the volume in
     * eighths of a litre, "/", the capacity in eighths of a litre, " ", the temperature in half degrees, "h" and, if
     * the level of the burner is greater than 0, " b" and the level; then "!" if it boiled in the last minute.
     */
    private static void testTheShortestAndTheLongestKettle() {
        Expect.same("the shortest", Words.kettle(Houses.after("kettle 2"), 0), "K0 0/4 40h");
        TeaHouse least = Houses.after("kettle 16;fill 0 16;burner 0 1");
        Expect.same("the least level", Words.kettle(least, 0), "K0 32/32 40h b1");
        TeaHouse boiling = Houses.hot(31);
        boiling.setBurner(0, 1);
        boiling.pass(1);
        boiling.setBurner(0, 5);
        Expect.same("the longest", Words.kettle(boiling, 0), "K0 30/32 200h b5!");
        boiling.setBurner(0, 0);
        Expect.same("boiled, then turned off", Words.kettle(boiling, 0), "K0 30/32 200h!");
        boiling.pass(1);
        Expect.same("a minute later", Words.kettle(boiling, 0), "K0 30/32 199h");
        Expect.same("the line is replaced", Words.line(boiling), "K0 30/32 199h");
    }

    /** Promise 54: An example is "K0 14/16 200h b3!". */
    private static void testTheExampleOfAKettle() {
        TeaHouse house = Houses.after("kettle 8;fill 0 8;burner 0 2;minutes 32;burner 0 3");
        Expect.same("the example", Words.kettle(house, 0), "K0 14/16 200h b3!");
    }

    /** Promise 54: `kettle`: the number of the kettle */
    private static void testFormatTheFirstAndTheLastKettle() {
        TeaHouse house = Houses.withKettles(4);
        Expect.same("the first", Words.kettle(house, 0), "K0 0/8 40h");
        Expect.same("the last", Words.kettle(house, 3), "K3 0/32 40h");
    }

    /** Promise 54: Returns the length of the line. */
    private static void testLengthOfAKettle() {
        Expect.same("the shortest", Houses.after("kettle 2").formatKettle(0), 10);
        TeaHouse house = Houses.hot(31);
        house.setBurner(0, 1);
        house.pass(1);
        Expect.same("the longest", house.formatKettle(0), 17);
    }

    /** Promise 54: Throws `IndexOutOfBoundsException` if there is no such kettle */
    private static void testFormatNoKettle() {
        Edges.expectNoSuchKettle("formatKettle", TeaHouse::formatKettle);
    }

    /**
     * Promise 55: Formats a waiting order into the line, replacing the previous line: "#", the number, " t", the
     * table, " ", the number of cups, "x", the minimum temperature, " p" and the priority.
     */
    private static void testTheShortestAndTheLongestOrder() {
        TeaHouse house = new TeaHouse();
        house.order(0, 1, 60, 1);
        Expect.same("the shortest", Words.order(house, 0), "#0 t0 1x60 p1");
        for (int order = 1; order < 100; order++) {
            house.order(0, 1, 60, 1);
            house.cancel(order);
        }
        house.order(9, 6, 100, 9);
        Expect.same("the longest", Words.order(house, 100), "#100 t9 6x100 p9");
        Expect.same("replaced by the shortest", Words.order(house, 0), "#0 t0 1x60 p1");
    }

    /** Promise 55: An example is "#12 t3 2x90 p7". */
    private static void testTheExampleOfAnOrder() {
        TeaHouse house = new TeaHouse();
        for (int order = 0; order < 12; order++) {
            house.order(0, 1, 60, 1);
            house.cancel(order);
        }
        house.order(3, 2, 90, 7);
        Expect.same("the example", Words.order(house, 12), "#12 t3 2x90 p7");
    }

    /** Promise 55: `order`: the number of a waiting order */
    private static void testFormatTheLeastAndTheGreatestNumber() {
        TeaHouse house = Houses.full();
        Expect.same("the least", Words.order(house, 4), "#4 t0 1x60 p1");
        Expect.same("the greatest", Words.order(house, 13), "#13 t9 4x69 p1");
    }

    /** Promise 55: Returns the length of the line. */
    private static void testLengthOfAnOrder() {
        Expect.same("the shortest", Houses.withOrders(1).formatOrder(0), 13);
        TeaHouse house = Houses.withOrders(10);
        house.cancel(0);
        house.order(0, 1, 100, 1);
        Expect.same("two digits and three", house.formatOrder(10), 15);
    }

    /** Promise 55: Throws `NoSuchElementException` if no waiting order has this number */
    private static void testFormatNoOrder() {
        Edges.expectNoSuchOrder("formatOrder", TeaHouse::formatOrder);
    }

    /**
     * Promise 56: Formats the incomes of the nights in the ledger into the line, replacing the previous line: the
     * incomes in eighths, with a blank between two of them.
     */
    private static void testNoNightAndFourteenNights() {
        TeaHouse house = Houses.withSteam(128);
        house.formatKettle(0);
        Expect.same("no night", Words.ledger(house), "");
        house.sellSteam(1);
        Expect.same("the present night is in no ledger", Words.ledger(house), "");
        house.closeNight();
        Expect.same("one night without a blank", Words.ledger(house), "2");
        house.closeNight();
        Expect.same("two nights", Words.ledger(house), "2 0");
        house.setSteamPrice(80);
        house.sellSteam(80);
        house.closeNight();
        Expect.same("a great income", Words.ledger(house), "2 0 6400");
        for (int night = 3; night < 14; night++) {
            house.closeNight();
        }
        Expect.same("fourteen nights", Words.ledger(house), "2 0 6400 0 0 0 0 0 0 0 0 0 0 0");
        house.formatKettle(0);
        Expect.same("replacing another line", Words.ledger(house), "2 0 6400 0 0 0 0 0 0 0 0 0 0 0");
    }

    /** Promise 56: Returns the length of the line. */
    private static void testLengthOfTheLedger() {
        Expect.same("no night", new TeaHouse().formatLedger(), 0);
        Expect.same("one night", Houses.withNights(1).formatLedger(), 1);
        Expect.same("fourteen nights", Houses.withNights(14).formatLedger(), 27);
    }

    /** Promise 57: Returns a character of the line, which is empty at first. */
    private static void testTheLineIsEmptyAtFirst() {
        Expect.thrown("at first", NO_INDEX, () -> new TeaHouse().lineChar(0));
        TeaHouse house = Houses.withOrders(1);
        Houses.runInVain(house, "serve");
        Expect.thrown("before anything is formatted", NO_INDEX, () -> house.lineChar(0));
        Expect.thrown("no such kettle", NO_INDEX, () -> house.formatKettle(0));
        Expect.thrown("after a refused call", NO_INDEX, () -> house.lineChar(0));
        house.formatOrder(0);
        Expect.same("formatted", house.lineChar(0), '#');
        house.formatLedger();
        Expect.thrown("empty again", NO_INDEX, () -> house.lineChar(0));
    }

    /** Promise 57: `index`: the index, starting at 0 */
    private static void testTheFirstAndTheLastCharacter() {
        TeaHouse order = Houses.withOrders(1);
        order.formatOrder(0);
        Expect.same("the first", order.lineChar(0), '#');
        Expect.same("the last", order.lineChar(12), '1');
        TeaHouse ledger = Houses.withNights(1);
        ledger.formatLedger();
        Expect.same("the only one", ledger.lineChar(0), '0');
    }

    /**
     * Promise 57: Throws `IndexOutOfBoundsException` if the index is negative or not less than the length of the line
     */
    private static void testNoSuchCharacter() {
        Expect.refusedEach("lineChar", TeaHouse::new, NO_INDEX, TeaHouse::lineChar, -1, 0, 1);
        Supplier<TeaHouse> order = Houses.and(() -> Houses.withOrders(1), house -> house.formatOrder(0));
        Expect.refusedEach("lineChar", order, NO_INDEX, TeaHouse::lineChar, -1, 13, 14);
        Supplier<TeaHouse> ledger = Houses.and(order, house -> house.formatLedger());
        Expect.refusedEach("lineChar", ledger, NO_INDEX, TeaHouse::lineChar, -1, 0, 12);
        Supplier<TeaHouse> night = Houses.and(ledger, house -> {
            house.closeNight();
            house.formatLedger();
        });
        Expect.refusedEach("lineChar", night, NO_INDEX, TeaHouse::lineChar, -1, 1, 12);
    }
}
