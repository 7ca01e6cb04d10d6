import java.util.NoSuchElementException;

/** Promises 5 to 8, 25 to 33, 36 and 48: orders, their serving and the cups. */
public final class OrderTest {
    public static void main(String[] args) {
        testOrder();
        testOrderRefused();
        testOrderOfServing();
        testTenOrders();
        testCancel();
        testQuestionsOfNoOrder();
        testPriceOf();
        testKettleFor();
        testServeNext();
        testServeNextRefused();
        testCupsRunOut();
        testWashRefused();
        testMinutesUntilSuitable();
        Expect.end();
    }

    private static TeaHouse hotHouse() {
        TeaHouse house = new TeaHouse();
        Words.run(house, "kettle 16;fill 0 16;burner 0 5;minutes 12;burner 0 0");
        return house;
    }

    private static void testOrder() {
        TeaHouse house = new TeaHouse();
        Expect.same("first order", house.order(0, 1, 60, 1), 0);
        Expect.same("second order", house.order(9, 6, 100, 9), 1);
        Expect.same("waitingCount", house.waitingCount(), 2);
        Expect.same("cupsOf(0)", house.cupsOf(0), 1);
        Expect.same("cupsOf(1)", house.cupsOf(1), 6);
        house.cancel(1);
        Expect.same("numbers are not used again", house.order(0, 1, 60, 1), 2);
        house.undo();
        Expect.same("undo takes back the number", house.order(0, 1, 60, 1), 2);
        house.save();
        house.order(0, 1, 60, 1);
        house.restore();
        Expect.same("restore takes back the number", house.order(0, 1, 60, 1), 3);
    }

    private static void testOrderRefused() {
        TeaHouse house = new TeaHouse();
        for (int i = 0; i < 11; i++) {
            Class<IllegalArgumentException> type = IllegalArgumentException.class;
            String when = " with " + i + " waiting";
            for (int table : new int[] {-1, 10, Integer.MAX_VALUE, Integer.MIN_VALUE}) {
                Expect.thrown("table " + table + when, type, () -> house.order(table, 1, 60, 1));
            }
            for (int cups : new int[] {0, 7, -1, Integer.MAX_VALUE}) {
                Expect.thrown("cups " + cups + when, type, () -> house.order(0, cups, 60, 1));
            }
            for (int minimum : new int[] {59, 101, -60, Integer.MAX_VALUE}) {
                Expect.thrown("minimum " + minimum + when, type, () -> house.order(0, 1, minimum, 1));
            }
            for (int priority : new int[] {0, 10, -1, Integer.MAX_VALUE}) {
                Expect.thrown("priority " + priority + when, type, () -> house.order(0, 1, 60, priority));
            }
            if (i == 10) {
                Expect.thrown("an eleventh order", IllegalStateException.class, () -> house.order(0, 1, 60, 1));
            } else {
                Expect.same("a refused order takes no number", house.order(0, 1, 60, 1), i);
            }
        }
    }

    private static void testOrderOfServing() {
        TeaHouse house = new TeaHouse();
        int[] priorities = {5, 1, 9, 5, 9, 2};
        for (int priority : priorities) {
            house.order(0, 1, 60, priority);
        }
        expectQueue(house, "higher priority first", 2, 4, 0, 3, 5, 1);
        house.order(0, 1, 60, 5);
        expectQueue(house, "then lower number", 2, 4, 0, 3, 6, 5, 1);
        house.cancel(4);
        house.cancel(1);
        expectQueue(house, "without the cancelled", 2, 0, 3, 6, 5);
        for (int position : new int[] {-1, 5, 9, 10, Integer.MIN_VALUE, Integer.MAX_VALUE}) {
            Expect.thrown("orderAt(" + position + ")", NoSuchElementException.class, () -> house.orderAt(position));
        }
    }

    private static void expectQueue(TeaHouse house, String what, int... orders) {
        Expect.same(what + ", waiting", house.waitingCount(), orders.length);
        for (int position = 0; position < orders.length; position++) {
            Expect.same(what + ", orderAt " + position, house.orderAt(position), orders[position]);
            Expect.same(what + ", positionOf " + orders[position], house.positionOf(orders[position]), position);
        }
        Expect.yes(what + ", balanced", house.isBalanced());
    }

    private static void testTenOrders() {
        TeaHouse house = new TeaHouse();
        for (int i = 0; i < 10; i++) {
            house.order(i, 1 + i % 6, 60 + i, 1 + i % 9);
        }
        expectQueue(house, "ten orders", 8, 7, 6, 5, 4, 3, 2, 1, 0, 9);
        Expect.same("the order at table 9", Words.order(house, 9), "#9 t9 4x69 p1");
        Expect.same("the order at table 8", Words.order(house, 8), "#8 t8 3x68 p9");
        Expect.thrown("an eleventh order", IllegalStateException.class, () -> house.order(0, 1, 60, 9));
        house.cancel(8);
        Expect.same("a place is free again", house.order(3, 2, 70, 9), 10);
        expectQueue(house, "ten orders again", 10, 7, 6, 5, 4, 3, 2, 1, 0, 9);
    }

    private static void testCancel() {
        TeaHouse house = new TeaHouse();
        house.order(0, 1, 60, 1);
        house.order(0, 2, 60, 1);
        house.order(0, 3, 60, 1);
        Expect.same("two still wait", house.cancel(1), 2);
        Expect.thrown("cancel again", NoSuchElementException.class, () -> house.cancel(1));
        Expect.same("one still waits", house.cancel(0), 1);
        Expect.same("cups of the one", house.cupsOf(2), 3);
        Expect.same("none waits", house.cancel(2), 0);
        Expect.same("no order was served", house.servedOrders(), 0);
        Expect.same("no cup was used", house.cleanCups(), 20);
    }

    private static void testQuestionsOfNoOrder() {
        TeaHouse house = hotHouse();
        house.order(0, 1, 60, 1);
        house.order(0, 1, 60, 1);
        house.cancel(0);
        Class<NoSuchElementException> type = NoSuchElementException.class;
        for (int order : new int[] {-1, 0, 2, Integer.MIN_VALUE, Integer.MAX_VALUE}) {
            Expect.thrown("cancel(" + order + ")", type, () -> house.cancel(order));
            Expect.thrown("positionOf(" + order + ")", type, () -> house.positionOf(order));
            Expect.thrown("cupsOf(" + order + ")", type, () -> house.cupsOf(order));
            Expect.thrown("priceOf(" + order + ")", type, () -> house.priceOf(order));
            Expect.thrown("kettleFor(" + order + ")", type, () -> house.kettleFor(order));
            Expect.thrown("minutesUntilSuitable(" + order + ")", type, () -> house.minutesUntilSuitable(order));
            Expect.thrown("formatOrder(" + order + ")", type, () -> house.formatOrder(order));
        }
    }

    private static void testPriceOf() {
        TeaHouse house = new TeaHouse();
        house.order(0, 5, 60, 1);
        Expect.same("at the first price", house.priceOf(0), 7.5);
        house.setCupPrice(7);
        Expect.same("at the present price", house.priceOf(0), 4.375);
    }

    private static void testKettleFor() {
        TeaHouse house = new TeaHouse();
        house.order(0, 2, 60, 1);
        Class<NoSuchElementException> type = NoSuchElementException.class;
        Expect.thrown("no kettle at all", type, () -> house.kettleFor(0));
        Words.run(house, "kettle 16;kettle 16;kettle 16;fill 0 2;fill 1 2;fill 2 1");
        Words.run(house, "burner 0 1;burner 1 1;burner 2 5;minutes 39");
        Expect.thrown("59 degrees are too cold", type, () -> house.kettleFor(0));
        house.pass(1);
        Expect.same("of equal ones the lowest number", house.kettleFor(0), 0);
        house.setBurner(1, 2);
        house.pass(1);
        Expect.same("the highest temperature", house.kettleFor(0), 1);
        house.order(0, 3, 60, 9);
        Expect.thrown("too little water", type, () -> house.kettleFor(1));
        Expect.same("whatever its position is", house.kettleFor(0), 1);
        Expect.no("the first order can't be served", house.canServe());
        house.cancel(1);
        Expect.yes("now it can", house.canServe());
        Expect.same("served from the hotter one", house.serveNext(), 0);
        Expect.same("its water", house.volume(1), 0.0);
        Expect.same("its temperature stays", house.temperature(1), 62.5);
        Expect.same("the other's water", house.volume(0), 0.5);
    }

    private static void testServeNext() {
        TeaHouse house = hotHouse();
        house.order(1, 2, 60, 3);
        house.order(2, 6, 100, 8);
        Expect.yes("canServe", house.canServe());
        Expect.same("the higher priority", house.serveNext(), 1);
        Expect.same("volume", house.volume(0), 4.0 - 0.625 - 1.5);
        Expect.same("temperature", house.temperature(0), 100.0);
        Expect.same("pouredTotal", house.pouredTotal(), 1.5);
        Expect.same("cleanCups", house.cleanCups(), 14);
        Expect.same("income", house.income(), 9.0);
        Expect.same("servedOrders", house.servedOrders(), 1);
        Expect.same("waitingCount", house.waitingCount(), 1);
        house.setCupPrice(8);
        Expect.same("the other", house.serveNext(), 0);
        Expect.same("income at the new price", house.income(), 11.0);
        Expect.same("servedOrders again", house.servedOrders(), 2);
        Expect.same("pouredTotal again", house.pouredTotal(), 2.0);
        Expect.thrown("it no longer waits", NoSuchElementException.class, () -> house.positionOf(0));
        Expect.yes("balanced", house.isBalanced());
    }

    private static void testServeNextRefused() {
        TeaHouse house = hotHouse();
        Class<IllegalStateException> type = IllegalStateException.class;
        Expect.no("canServe without orders", house.canServe());
        Expect.thrown("no order waits", type, house::serveNext);
        house.order(0, 1, 100, 1);
        house.pass(1);
        Expect.no("canServe from 99.5 degrees", house.canServe());
        Expect.thrown("no kettle suits", type, house::serveNext);
        house.order(0, 1, 60, 1);
        Expect.thrown("only the second could be served", type, house::serveNext);
        house.cancel(0);
        Expect.same("now it is the first", house.serveNext(), 1);
    }

    private static void testCupsRunOut() {
        TeaHouse house = hotHouse();
        Words.run(house, "order 0 6 60 1;serve;order 0 6 60 1;serve");
        Words.run(house, "fill 0 14;burner 0 5;minutes 12;order 0 6 60 1;serve");
        Expect.same("two cups are clean", house.cleanCups(), 2);
        house.order(0, 3, 60, 1);
        Expect.yes("a kettle suits", house.kettleFor(3) >= 0);
        Expect.no("canServe with too few cups", house.canServe());
        Expect.thrown("too few cups", IllegalStateException.class, house::serveNext);
        Expect.same("wash one", house.wash(1), 3);
        Expect.yes("canServe with three cups", house.canServe());
        house.serveNext();
        Expect.same("no cup is clean", house.cleanCups(), 0);
        Expect.same("wash all", house.wash(20), 20);
    }

    private static void testWashRefused() {
        TeaHouse house = hotHouse();
        for (int cups : new int[] {0, -1, 21, Integer.MIN_VALUE, Integer.MAX_VALUE}) {
            Expect.thrown("wash(" + cups + ")", IllegalArgumentException.class, () -> house.wash(cups));
        }
        Expect.thrown("nothing to wash", IllegalStateException.class, () -> house.wash(1));
        house.order(0, 4, 60, 1);
        house.serveNext();
        Expect.thrown("five of four", IllegalStateException.class, () -> house.wash(5));
        Expect.thrown("twenty of four", IllegalStateException.class, () -> house.wash(20));
        Expect.same("three of four", house.wash(3), 19);
        Expect.thrown("two of one", IllegalStateException.class, () -> house.wash(2));
        Expect.same("the last", house.wash(1), 20);
    }

    private static void testMinutesUntilSuitable() {
        TeaHouse house = new TeaHouse();
        Class<NoSuchElementException> type = NoSuchElementException.class;
        house.order(0, 1, 60, 1);
        Expect.thrown("without kettles", type, () -> house.minutesUntilSuitable(0));
        Words.run(house, "kettle 16;kettle 16;fill 0 1;fill 1 16");
        Expect.thrown("without fire", type, () -> house.minutesUntilSuitable(0));
        house.setBurner(1, 1);
        String before = Portrait.of(house);
        Expect.same("the second kettle", house.minutesUntilSuitable(0), 40);
        Expect.same("only a copy has changed", Portrait.of(house), before);
        house.setBurner(0, 2);
        Expect.same("the first kettle is faster", house.minutesUntilSuitable(0), 16);
        house.order(0, 6, 60, 1);
        Expect.same("the first kettle is too empty", house.minutesUntilSuitable(1), 40);
        house.pass(39);
        Expect.same("one more minute", house.minutesUntilSuitable(1), 1);
        house.pass(1);
        Expect.same("now", house.minutesUntilSuitable(1), 0);
        house.setBurner(1, 0);
        Expect.same("still now", house.minutesUntilSuitable(1), 0);
        house.pass(1);
        Expect.thrown("it only cools down", type, () -> house.minutesUntilSuitable(1));
        testBoilingAwayBeforeSuitable();
    }

    private static void testBoilingAwayBeforeSuitable() {
        TeaHouse house = new TeaHouse();
        Words.run(house, "kettle 2;fill 0 1;burner 0 1;order 0 1 100 1");
        Expect.thrown("in the minute of boiling a cup is no longer there", NoSuchElementException.class,
                () -> house.minutesUntilSuitable(0));
        house.order(0, 1, 99, 1);
        Expect.same("a minute earlier it is", house.minutesUntilSuitable(1), 79);
    }
}
